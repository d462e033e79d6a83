import java.util.ArrayList;
import java.util.Comparator;
import java.util.List;
import java.util.stream.Collectors;

/**
 * The document written a second time, by objects and streams and with no regard to speed,
 * so that ModelTest can hold the program against it. It shares no code with the program.
 */
final class SlowOffice {
    static final class Bin {
        int number;
        int height;
        int room;
    }

    static final class One {
        int number;
        int height;
        int n;
        int lag;
        int got;
        int written;
    }

    static final class Letter {
        int number;
        One one;
        int weight;
        int seal;
        int state;
        int barnacles;
        Bin bin;
        int held;
        int before;
        Letter answers;
    }

    private List<Integer> tides = new ArrayList<>(List.of(10, 20, 35, 55, 75, 90, 95, 85, 65, 45, 25, 12));
    private final List<Bin> bins = new ArrayList<>();
    private final List<One> drowned = new ArrayList<>();
    private final List<Letter> letters = new ArrayList<>();
    private int hour;
    private int scrapers = 2;
    private int sorters = 3;

    private static void argument(boolean right) {
        if (!right) {
            throw new IllegalArgumentException();
        }
    }

    private static void state(boolean right) {
        if (!right) {
            throw new IllegalStateException();
        }
    }

    private static void index(boolean right) {
        if (!right) {
            throw new IndexOutOfBoundsException();
        }
    }

    private static boolean in(int x, int least, int most) {
        return least <= x && x <= most;
    }

    int beginTides(int height) {
        argument(in(height, 0, 99));
        int were = tides.size();
        tides = new ArrayList<>(List.of(height));
        return were;
    }

    int addTide(int height) {
        argument(in(height, 0, 99));
        state(tides.size() != 30);
        tides.add(height);
        return tides.size();
    }

    int tide(int at) {
        argument(at >= 0);
        return tides.get(at % tides.size());
    }

    int addBin(int height, int room) {
        argument(in(height, 0, 99) && in(room, 1, 20));
        state(bins.size() != 10);
        Bin bin = new Bin();
        bin.number = bins.size();
        bin.height = height;
        bin.room = room;
        bins.add(bin);
        return bin.number;
    }

    int setCrew(int newScrapers, int newSorters) {
        argument(in(newScrapers, 0, 9) && in(newSorters, 0, 9));
        int were = sorters;
        scrapers = newScrapers;
        sorters = newSorters;
        return were;
    }

    int addDrowned(int height, int n, int lag) {
        argument(in(height, 0, 99) && in(n, 0, 5) && in(lag, 1, 60));
        state(drowned.size() != 16);
        One one = new One();
        one.number = drowned.size();
        one.height = height;
        one.n = n;
        one.lag = lag;
        drowned.add(one);
        return one.number;
    }

    private Letter newLetter(One one, int weight, int seal) {
        Letter letter = new Letter();
        letter.number = letters.size();
        letter.one = one;
        letter.weight = weight;
        letter.seal = seal;
        letters.add(letter);
        return letter;
    }

    int bring(int to, int weight, int seal) {
        index(in(to, 0, drowned.size() - 1));
        argument(in(weight, 1, 9) && in(seal, 1, 60));
        state(letters.size() != 150);
        return newLetter(drowned.get(to), weight, seal).number;
    }

    private boolean under(Bin bin) {
        return tide(hour) > bin.height;
    }

    int takeOut(int number) {
        index(in(number, 0, letters.size() - 1));
        Letter letter = letters.get(number);
        state(letter.state == 1);
        state(!under(letter.bin));
        int was = letter.bin.number;
        letter.state = 0;
        letter.bin = null;
        letter.held = 0;
        return was;
    }

    int letter(int number, int what) {
        index(in(number, 0, letters.size() - 1) && in(what, 0, 8));
        Letter l = letters.get(number);
        return new int[] {l.one.number, l.weight, l.seal, l.state, l.barnacles,
            l.state == 1 ? l.bin.number : -1, l.state == 1 ? l.held : 0,
            l.state == 4 ? l.before : 0, l.answers == null ? -1 : l.answers.number}[what];
    }

    int drowned(int number, int what) {
        index(in(number, 0, drowned.size() - 1) && in(what, 0, 4));
        One one = drowned.get(number);
        return new int[] {one.height, one.n, one.lag, one.got, one.written}[what];
    }

    private List<Letter> inBin(Bin bin) {
        return letters.stream().filter(l -> l.state == 1 && l.bin == bin).collect(Collectors.toList());
    }

    int bin(int number, int what) {
        index(in(number, 0, bins.size() - 1) && in(what, 0, 4));
        Bin bin = bins.get(number);
        return new int[] {bin.height, bin.room, inBin(bin).size(), under(bin) ? 1 : 0,
            inBin(bin).stream().mapToInt(l -> l.barnacles).sum()}[what];
    }

    int pass(int hours) {
        argument(in(hours, 1, 200));
        int before = count(6);
        for (int i = 0; i < hours; i++) {
            oneHour();
        }
        return count(6) - before;
    }

    private void oneHour() {
        int height = tide(hour);
        List<Letter> gone = new ArrayList<>();
        for (Letter l : letters) {
            if (l.state != 1) {
                continue;
            }
            if (!under(l.bin)) {
                l.held = 0;
                continue;
            }
            l.barnacles = l.barnacles + 1 + l.weight / 3;
            if (l.barnacles >= l.seal) {
                l.state = 3;
            } else if (height < l.one.height) {
                l.held = 0;
            } else if (++l.held == 3) {
                l.state = 2;
                gone.add(l);
            }
        }
        List<Letter> old = new ArrayList<>(letters);
        for (Letter l : gone) {
            l.one.got++;
            if (l.one.n != 0 && l.one.got % l.one.n == 0 && letters.size() < 150) {
                Letter answer = newLetter(l.one, l.weight, l.seal);
                answer.state = 4;
                answer.before = l.one.lag;
                answer.answers = l;
                l.one.written++;
            }
        }
        for (Letter l : old) {
            if (l.state == 4) {
                l.before = Math.max(0, l.before - 1);
                if (l.before == 0 && height <= 30) {
                    l.state = 5;
                }
            }
        }
        letters.stream().filter(l -> l.state == 1 && !under(l.bin) && l.barnacles > 0)
                .sorted(Comparator.comparingInt((Letter l) -> -l.barnacles).thenComparingInt(l -> l.number))
                .limit(scrapers).collect(Collectors.toList())
                .forEach(l -> l.barnacles = Math.max(0, l.barnacles - 2));
        List<Letter> office = letters.stream().filter(l -> l.state == 0)
                .sorted(Comparator.comparingInt((Letter l) -> -l.weight).thenComparingInt(l -> l.number))
                .limit(sorters).collect(Collectors.toList());
        for (Letter l : office) {
            Bin bin = nearest(l.one);
            if (bin == null) {
                break;
            }
            l.state = 1;
            l.bin = bin;
            l.held = 0;
        }
        hour++;
    }

    private Bin nearest(One one) {
        return bins.stream().filter(b -> inBin(b).size() < b.room)
                .min(Comparator.comparingInt((Bin b) -> Math.abs(b.height - one.height))
                        .thenComparingInt(b -> b.height).thenComparingInt(b -> b.number))
                .orElse(null);
    }

    int count(int what) {
        index(in(what, 0, 12));
        if (what >= 4 && what <= 9) {
            return (int) letters.stream().filter(l -> l.state == what - 4).count();
        }
        return new int[] {hour, bins.size(), drowned.size(), letters.size(), 0, 0, 0, 0, 0, 0,
            tides.size(), scrapers, sorters}[what];
    }

    int binFor(int one) {
        index(in(one, 0, drowned.size() - 1));
        Bin bin = nearest(drowned.get(one));
        return bin == null ? -1 : bin.number;
    }

    private SlowOffice twin() {
        SlowOffice twin = new SlowOffice();
        twin.tides = new ArrayList<>(tides);
        for (Bin bin : bins) {
            twin.addBin(bin.height, bin.room);
        }
        for (One one : drowned) {
            One other = twin.drowned.get(twin.addDrowned(one.height, one.n, one.lag));
            other.got = one.got;
            other.written = one.written;
        }
        for (Letter l : letters) {
            Letter other = twin.newLetter(twin.drowned.get(l.one.number), l.weight, l.seal);
            other.state = l.state;
            other.barnacles = l.barnacles;
            other.bin = l.bin == null ? null : twin.bins.get(l.bin.number);
            other.held = l.held;
            other.before = l.before;
            other.answers = l.answers == null ? null : twin.letters.get(l.answers.number);
        }
        twin.hour = hour;
        twin.scrapers = scrapers;
        twin.sorters = sorters;
        return twin;
    }

    int foresee(int hours, int what) {
        argument(in(hours, 1, 100));
        index(in(what, 0, 2));
        SlowOffice later = twin();
        later.pass(hours);
        int counted = new int[] {6, 7, 9}[what];
        return later.count(counted) - count(counted);
    }

    int fate(int number, int hours) {
        index(in(number, 0, letters.size() - 1));
        argument(in(hours, 1, 100));
        SlowOffice later = twin();
        later.pass(hours);
        return later.letters.get(number).state;
    }

    int reaches(int one, int bin) {
        index(in(one, 0, drowned.size() - 1));
        index(in(bin, 0, bins.size() - 1));
        for (int last = hour + 2; last < hour + 200; last++) {
            boolean held = true;
            for (int at = last - 2; at <= last; at++) {
                held = held && tide(at) > bins.get(bin).height && tide(at) >= drowned.get(one).height;
            }
            if (held) {
                return last;
            }
        }
        return -1;
    }

    double barnacles() {
        return letters.stream().filter(l -> l.state == 1).mapToInt(l -> l.barnacles).average().orElse(0);
    }

    long digest() {
        long d = 479;
        for (int what = 0; what <= 12; what++) {
            d = d * 31 + count(what);
        }
        for (int height : tides) {
            d = d * 31 + height;
        }
        for (Bin bin : bins) {
            for (int what = 0; what <= 4; what++) {
                d = d * 31 + bin(bin.number, what);
            }
        }
        for (One one : drowned) {
            for (int what = 0; what <= 4; what++) {
                d = d * 31 + drowned(one.number, what);
            }
        }
        for (Letter l : letters) {
            for (int what = 0; what <= 8; what++) {
                d = d * 31 + letter(l.number, what);
            }
        }
        return d;
    }
}
