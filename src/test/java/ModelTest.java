import java.util.function.LongSupplier;

/** Long runs of calls, right and wrong ones, on the program and on SlowOffice: both must answer alike. */
public final class ModelTest {
    private static final int RUNS = 400;
    /** The most that one round asks for: a new table with five heights more, and the digest behind it. */
    private static final int CALLS_OF_A_ROUND = 7;

    private static final Check check = new Check();
    private static long seed;

    private CountedPost post;
    private SlowOffice slow;
    private String run;

    public static void main(String[] args) {
        for (int run = 0; run < RUNS; run++) {
            seed = run * 7919L + 1;
            new ModelTest().go(run);
        }
        check.end("ModelTest");
    }

    /** The same numbers in every run of this test: no random source is asked. */
    private static int below(int bound) {
        seed = seed * 6364136223846793005L + 1442695040888963407L;
        return (int) ((seed >>> 33) % bound);
    }

    private static int within(int least, int most) {
        return least + below(most - least + 1);
    }

    /** Mostly a number within the limits; now and then one at their edge, beside it, or far away. */
    private static int near(int least, int most) {
        switch (below(40)) {
            case 0: return least - 1;
            case 1: return most + 1;
            case 2: return least;
            case 3: return most;
            case 4: return below(6) == 0 ? Integer.MIN_VALUE : least;
            case 5: return below(6) == 0 ? Integer.MAX_VALUE : most;
            default: return most < least ? least : within(least, most);
        }
    }

    private void go(int number) {
        post = new CountedPost();
        slow = new SlowOffice();
        run = "run " + number + ", call ";
        // Each run has its own mind: how often letters come, how long hours last, how strong seals are.
        int letterShare = within(1, 40);
        int longestPass = below(4) == 0 ? 200 : within(1, 12);
        int weakestSeal = within(1, 40);
        furnish();
        for (int call = 0; post.callsLeft() >= CALLS_OF_A_ROUND; call++) {
            int kind = below(100);
            if (kind < letterShare) {
                bring(call, weakestSeal);
            } else if (kind < letterShare + 12) {
                pass(call, longestPass);
            } else {
                other(call, below(32));
            }
            if (post.digest() != slow.digest()) {
                check.fail(run + call + ": the digests differ");
                return;
            }
        }
    }

    private void furnish() {
        if (below(3) > 0) {
            int first = within(0, 99);
            same("beginTides", () -> post.beginTides(first), () -> slow.beginTides(first));
            for (int left = below(30); left > 0; left--) {
                int height = below(3) == 0 ? within(0, 40) : within(30, 99);
                same("addTide", () -> post.addTide(height), () -> slow.addTide(height));
            }
        }
        for (int left = within(0, 6); left > 0; left--) {
            addBin(-1);
        }
        for (int left = within(1, 6); left > 0; left--) {
            addDrowned(-1);
        }
    }

    private void addBin(int call) {
        int height = near(0, below(2) == 0 ? 99 : 40);
        int room = near(1, below(2) == 0 ? 20 : 3);
        same(call + " addBin " + height + " " + room,
                () -> post.addBin(height, room), () -> slow.addBin(height, room));
    }

    private void addDrowned(int call) {
        int height = near(0, below(2) == 0 ? 99 : 50);
        int n = near(0, below(2) == 0 ? 5 : 2);
        int lag = near(1, below(2) == 0 ? 60 : 5);
        same(call + " addDrowned " + height + " " + n + " " + lag,
                () -> post.addDrowned(height, n, lag), () -> slow.addDrowned(height, n, lag));
    }

    private void bring(int call, int weakestSeal) {
        int to = near(0, slow.count(2) - 1);
        int weight = near(1, 9);
        int seal = below(8) == 0 ? near(1, 60) : within(weakestSeal, 60);
        same(call + " bring " + to + " " + weight + " " + seal,
                () -> post.bring(to, weight, seal), () -> slow.bring(to, weight, seal));
    }

    private void pass(int call, int longest) {
        int hours = below(20) == 0 ? near(1, 200) : within(1, longest);
        same(call + " pass " + hours, () -> post.pass(hours), () -> slow.pass(hours));
    }

    private void other(int call, int kind) {
        int letter = near(0, slow.count(3) - 1);
        int one = near(0, slow.count(2) - 1);
        int bin = near(0, slow.count(1) - 1);
        int height = near(0, 99);
        int hours = below(3) == 0 ? near(1, 100) : within(1, 12);
        int what = near(0, 12);
        switch (kind) {
            case 0: addBin(call); break;
            case 1: addDrowned(call); break;
            case 2: crew(call); break;
            case 3: same(call + " addTide", () -> post.addTide(height), () -> slow.addTide(height)); break;
            case 4: table(call, height); break;
            case 5: case 6: case 7: case 8: case 9: takeOut(call, letter); break;
            case 10: case 11: case 12:
                same(call + " foresee " + hours + " " + what % 4,
                        () -> post.foresee(hours, what % 4), () -> slow.foresee(hours, what % 4)); break;
            case 13: case 14: case 15:
                same(call + " fate " + letter + " " + hours,
                        () -> post.fate(letter, hours), () -> slow.fate(letter, hours)); break;
            case 16: case 17: case 18:
                same(call + " reaches " + one + " " + bin,
                        () -> post.reaches(one, bin), () -> slow.reaches(one, bin)); break;
            case 19: case 20: case 21:
                same(call + " binFor " + one, () -> post.binFor(one), () -> slow.binFor(one)); break;
            case 22: case 23:
                same(call + " letter " + letter + " " + what,
                        () -> post.letter(letter, what), () -> slow.letter(letter, what)); break;
            case 24: case 25:
                same(call + " bin " + bin + " " + what % 6,
                        () -> post.bin(bin, what % 6), () -> slow.bin(bin, what % 6)); break;
            case 26: case 27:
                same(call + " drowned " + one + " " + what % 6,
                        () -> post.drowned(one, what % 6), () -> slow.drowned(one, what % 6)); break;
            case 28: same(call + " count " + what, () -> post.count(what), () -> slow.count(what)); break;
            case 29: same(call + " tide " + what, () -> post.tide(what), () -> slow.tide(what)); break;
            default: check.sameMean(run + call + " barnacles", post.barnacles(), slow.barnacles()); break;
        }
    }

    private void table(int call, int height) {
        if (below(3) != 0) {
            return;
        }
        same(call + " beginTides", () -> post.beginTides(height), () -> slow.beginTides(height));
        for (int left = below(6); left > 0; left--) {
            int next = within(0, 99);
            same(call + " addTide", () -> post.addTide(next), () -> slow.addTide(next));
        }
    }

    private void takeOut(int call, int letter) {
        same(call + " takeOut " + letter, () -> post.takeOut(letter), () -> slow.takeOut(letter));
    }

    private void crew(int call) {
        int scrapers = near(0, 9);
        int sorters = near(0, 9);
        same(call + " setCrew " + scrapers + " " + sorters,
                () -> post.setCrew(scrapers, sorters), () -> slow.setCrew(scrapers, sorters));
    }

    private void same(String call, LongSupplier got, LongSupplier due) {
        String gotText = answer(got);
        String dueText = answer(due);
        if (gotText.equals(dueText)) {
            check.holds(call, true);
        } else {
            check.fail(run + call + " answered " + gotText + ", due is " + dueText);
        }
    }

    private static String answer(LongSupplier call) {
        try {
            return Long.toString(call.getAsLong());
        } catch (RuntimeException e) {
            return "throws " + e.getClass().getName();
        }
    }
}
