/** A sorting office for letters to the drowned. */
public final class DrownedPost {
    private static final int MOST_HEIGHT = 99;
    private static final int MOST_TIDES = 30;
    private static final int MOST_BINS = 10;
    private static final int MOST_ROOM = 20;
    private static final int MOST_CREW = 9;
    private static final int MOST_DROWNED = 16;
    private static final int MOST_N = 5;
    private static final int MOST_LAG = 60;
    private static final int MOST_LETTERS = 150;
    private static final int MOST_WEIGHT = 9;
    private static final int MOST_SEAL = 60;
    private static final int MOST_HOURS_PASSED = 200;
    private static final int MOST_HOURS_FORESEEN = 100;
    private static final int HOURS_LOOKED_FOR_REACH = 200;

    private static final int HOURS_TO_GO_DOWN = 3;
    private static final int LOW_TIDE = 30;
    private static final int SCRAPED_AT_ONCE = 2;

    private static final int IN_OFFICE = 0;
    private static final int IN_BIN = 1;
    private static final int GONE_DOWN = 2;
    private static final int LOST = 3;
    private static final int ON_ITS_WAY = 4;
    private static final int HERE = 5;

    private static final int NONE = -1;

    private static final int LETTER_FACTS = 9;
    private static final int DROWNED_FACTS = 5;
    private static final int BIN_FACTS = 5;
    private static final int COUNTS = 13;
    private static final int FIRST_STATE_COUNT = 4;

    private static final int FIRST_SCRAPERS = 2;
    private static final int FIRST_SORTERS = 3;

    private static final long DIGEST_START = 479;
    private static final long DIGEST_FACTOR = 31;

    private static final int[] FIRST_TIDES = {10, 20, 35, 55, 75, 90, 95, 85, 65, 45, 25, 12};

    private final Office now;
    /** Made once and used by every look ahead, so that looking makes no new objects. */
    private final Office ahead;

    public DrownedPost() {
        now = new Office();
        ahead = new Office();
    }

    // ---- the quay

    public int beginTides(int height) throws IllegalArgumentException {
        if (!isWithin(height, 0, MOST_HEIGHT)) {
            throw new IllegalArgumentException("height is not 0 to 99");
        }
        int before = now.tides.count;
        now.tides.begin(height);
        return before;
    }

    public int addTide(int height) throws IllegalArgumentException, IllegalStateException {
        if (!isWithin(height, 0, MOST_HEIGHT)) {
            throw new IllegalArgumentException("height is not 0 to 99");
        }
        if (now.tides.count >= MOST_TIDES) {
            throw new IllegalStateException("there are 30 heights");
        }
        now.tides.append(height);
        return now.tides.count;
    }

    public int tide(int hour) throws IllegalArgumentException {
        if (hour < 0) {
            throw new IllegalArgumentException("hour is less than 0");
        }
        return now.tides.heightIn(hour);
    }

    public int addBin(int height, int room) throws IllegalArgumentException, IllegalStateException {
        if (!isWithin(height, 0, MOST_HEIGHT) || !isWithin(room, 1, MOST_ROOM)) {
            throw new IllegalArgumentException("height is not 0 to 99, or room is not 1 to 20");
        }
        if (now.bins.count >= MOST_BINS) {
            throw new IllegalStateException("there are 10 bins");
        }
        return now.bins.append(height, room);
    }

    public int setCrew(int scrapers, int sorters) throws IllegalArgumentException {
        if (!isWithin(scrapers, 0, MOST_CREW) || !isWithin(sorters, 0, MOST_CREW)) {
            throw new IllegalArgumentException("scrapers or sorters is not 0 to 9");
        }
        int before = now.sorters;
        now.scrapers = scrapers;
        now.sorters = sorters;
        return before;
    }

    // ---- the drowned and their letters

    public int addDrowned(int height, int n, int lag) throws IllegalArgumentException, IllegalStateException {
        if (!isWithin(height, 0, MOST_HEIGHT) || !isWithin(n, 0, MOST_N) || !isWithin(lag, 1, MOST_LAG)) {
            throw new IllegalArgumentException("height is not 0 to 99, n is not 0 to 5, or lag is not 1 to 60");
        }
        if (now.drowned.count >= MOST_DROWNED) {
            throw new IllegalStateException("there are 16 drowned");
        }
        return now.drowned.append(height, n, lag);
    }

    public int bring(int to, int weight, int seal)
            throws IndexOutOfBoundsException, IllegalArgumentException, IllegalStateException {
        if (!now.drowned.has(to)) {
            throw new IndexOutOfBoundsException("no such one of the drowned");
        }
        if (!isWithin(weight, 1, MOST_WEIGHT) || !isWithin(seal, 1, MOST_SEAL)) {
            throw new IllegalArgumentException("weight is not 1 to 9, or seal is not 1 to 60");
        }
        if (now.letters.count >= MOST_LETTERS) {
            throw new IllegalStateException("there are 150 letters");
        }
        return now.letters.append(to, weight, seal);
    }

    public int takeOut(int letter) throws IndexOutOfBoundsException, IllegalStateException {
        if (!now.letters.has(letter)) {
            throw new IndexOutOfBoundsException("no such letter");
        }
        int bin = now.letters.bin[letter];
        if (!now.bins.has(bin)) {
            throw new IllegalStateException("the letter is in no bin");
        }
        if (now.bins.isUnder(bin, now.tideNow())) {
            throw new IllegalStateException("the bin is under water");
        }
        now.leaveBin(letter, IN_OFFICE);
        return bin;
    }

    public int letter(int letter, int what) throws IndexOutOfBoundsException {
        if (!now.letters.has(letter) || !isWithin(what, 0, LETTER_FACTS - 1)) {
            throw new IndexOutOfBoundsException("no such letter, or what is not 0 to 8");
        }
        return now.letters.fact(letter, what);
    }

    public int drowned(int one, int what) throws IndexOutOfBoundsException {
        if (!now.drowned.has(one) || !isWithin(what, 0, DROWNED_FACTS - 1)) {
            throw new IndexOutOfBoundsException("no such one of the drowned, or what is not 0 to 4");
        }
        return now.drowned.fact(one, what);
    }

    public int bin(int bin, int what) throws IndexOutOfBoundsException {
        if (!now.bins.has(bin) || !isWithin(what, 0, BIN_FACTS - 1)) {
            throw new IndexOutOfBoundsException("no such bin, or what is not 0 to 4");
        }
        return now.binFact(bin, what);
    }

    // ---- hours

    public int pass(int hours) throws IllegalArgumentException {
        if (!isWithin(hours, 1, MOST_HOURS_PASSED)) {
            throw new IllegalArgumentException("hours is not 1 to 200");
        }
        return now.letGoBy(hours);
    }

    public int count(int what) throws IndexOutOfBoundsException {
        if (!isWithin(what, 0, COUNTS - 1)) {
            throw new IndexOutOfBoundsException("what is not 0 to 12");
        }
        return now.total(what);
    }

    public int binFor(int one) throws IndexOutOfBoundsException {
        if (!now.drowned.has(one)) {
            throw new IndexOutOfBoundsException("no such one of the drowned");
        }
        return now.bins.nearestWithRoom(now.drowned.heightOf(one));
    }

    // ---- looking ahead

    public int foresee(int hours, int what) throws IllegalArgumentException, IndexOutOfBoundsException {
        if (!isWithin(hours, 1, MOST_HOURS_FORESEEN)) {
            throw new IllegalArgumentException("hours is not 1 to 100");
        }
        if (!isWithin(what, 0, 2)) {
            throw new IndexOutOfBoundsException("what is not 0 to 2");
        }
        ahead.copyFrom(now);
        ahead.letGoBy(hours);
        // A letter never leaves one of these states, so what came in is the difference.
        int state = what == 0 ? GONE_DOWN : what == 1 ? LOST : HERE;
        return ahead.letters.inState(state) - now.letters.inState(state);
    }

    public int fate(int letter, int hours) throws IndexOutOfBoundsException, IllegalArgumentException {
        if (!now.letters.has(letter)) {
            throw new IndexOutOfBoundsException("no such letter");
        }
        if (!isWithin(hours, 1, MOST_HOURS_FORESEEN)) {
            throw new IllegalArgumentException("hours is not 1 to 100");
        }
        ahead.copyFrom(now);
        ahead.letGoBy(hours);
        return ahead.letters.state[letter];
    }

    public int reaches(int one, int bin) throws IndexOutOfBoundsException {
        if (!now.drowned.has(one) || !now.bins.has(bin)) {
            throw new IndexOutOfBoundsException("no such one of the drowned, or no such bin");
        }
        return now.hourOfReach(now.drowned.heightOf(one), bin);
    }

    public double barnacles() {
        int letters = now.letters.inState(IN_BIN);
        if (letters < 1) {
            return 0;
        }
        return (double) now.letters.growthInBins() / letters;
    }

    public long digest() {
        long d = DIGEST_START;
        for (int what = 0; what < COUNTS; what++) {
            d = d * DIGEST_FACTOR + now.total(what);
        }
        d = now.tides.digestFrom(d);
        for (int bin = 0; bin < now.bins.count; bin++) {
            for (int what = 0; what < BIN_FACTS; what++) {
                d = d * DIGEST_FACTOR + now.binFact(bin, what);
            }
        }
        d = now.drowned.digestFrom(d);
        return now.letters.digestFrom(d);
    }

    private static boolean isWithin(int value, int least, int most) {
        return value >= least && value <= most;
    }

    /** The table of tides. */
    private static final class Tides {
        final int[] heights = new int[MOST_TIDES];
        int count;

        Tides() {
            count = FIRST_TIDES.length;
            System.arraycopy(FIRST_TIDES, 0, heights, 0, FIRST_TIDES.length);
        }

        void begin(int height) {
            heights[0] = height;
            count = 1;
        }

        void append(int height) {
            if (count < MOST_TIDES) {
                heights[count] = height;
                count++;
            }
        }

        int heightIn(int hour) {
            if (count < 1) {
                return 0;
            }
            return heights[Math.floorMod(hour, count)];
        }

        long digestFrom(long start) {
            long d = start;
            for (int i = 0; i < count; i++) {
                d = d * DIGEST_FACTOR + heights[i];
            }
            return d;
        }

        void copyFrom(Tides other) {
            count = other.count;
            System.arraycopy(other.heights, 0, heights, 0, count);
        }
    }

    /** The bins, in parallel rows by number. */
    private static final class Bins {
        final int[] height = new int[MOST_BINS];
        final int[] room = new int[MOST_BINS];
        final int[] filled = new int[MOST_BINS];
        int count;

        boolean has(int bin) {
            return bin >= 0 && bin < count;
        }

        int append(int itsHeight, int itsRoom) {
            if (count >= MOST_BINS) {
                return NONE;
            }
            int bin = count;
            height[bin] = itsHeight;
            room[bin] = itsRoom;
            filled[bin] = 0;
            count++;
            return bin;
        }

        boolean isUnder(int bin, int tide) {
            return bin >= 0 && bin < count && tide > height[bin];
        }

        int nearestWithRoom(int wanted) {
            int best = NONE;
            for (int bin = 0; bin < count; bin++) {
                if (filled[bin] < room[bin] && (best == NONE || isNearer(bin, best, wanted))) {
                    best = bin;
                }
            }
            return best;
        }

        private boolean isNearer(int bin, int best, int wanted) {
            int gap = Math.abs(height[bin] - wanted);
            int bestGap = Math.abs(height[best] - wanted);
            return gap < bestGap || gap == bestGap && height[bin] < height[best];
        }

        void copyFrom(Bins other) {
            count = other.count;
            System.arraycopy(other.height, 0, height, 0, count);
            System.arraycopy(other.room, 0, room, 0, count);
            System.arraycopy(other.filled, 0, filled, 0, count);
        }
    }

    /** The drowned, in parallel rows by number. */
    private static final class Drowned {
        final int[] height = new int[MOST_DROWNED];
        final int[] n = new int[MOST_DROWNED];
        final int[] lag = new int[MOST_DROWNED];
        final int[] got = new int[MOST_DROWNED];
        final int[] written = new int[MOST_DROWNED];
        int count;

        boolean has(int one) {
            return one >= 0 && one < count;
        }

        int append(int itsHeight, int itsN, int itsLag) {
            if (count >= MOST_DROWNED) {
                return NONE;
            }
            int one = count;
            height[one] = itsHeight;
            n[one] = itsN;
            lag[one] = itsLag;
            got[one] = 0;
            written[one] = 0;
            count++;
            return one;
        }

        int heightOf(int one) {
            return has(one) ? height[one] : 0;
        }

        /** Counts a letter that went down, and tells whether it is one that is answered. */
        boolean gets(int one) {
            if (!has(one)) {
                return false;
            }
            got[one]++;
            return n[one] > 0 && got[one] % n[one] == 0;
        }

        int fact(int one, int what) {
            if (!has(one)) {
                return 0;
            }
            switch (what) {
                case 0: return height[one];
                case 1: return n[one];
                case 2: return lag[one];
                case 3: return got[one];
                case 4: return written[one];
                default: return 0;
            }
        }

        long digestFrom(long start) {
            long d = start;
            for (int one = 0; one < count; one++) {
                for (int what = 0; what < DROWNED_FACTS; what++) {
                    d = d * DIGEST_FACTOR + fact(one, what);
                }
            }
            return d;
        }

        void copyFrom(Drowned other) {
            count = other.count;
            System.arraycopy(other.height, 0, height, 0, count);
            System.arraycopy(other.n, 0, n, 0, count);
            System.arraycopy(other.lag, 0, lag, 0, count);
            System.arraycopy(other.got, 0, got, 0, count);
            System.arraycopy(other.written, 0, written, 0, count);
        }
    }

    /** The letters, answers too, in parallel rows by number. */
    private static final class Letters {
        final int[] to = new int[MOST_LETTERS];
        final int[] weight = new int[MOST_LETTERS];
        final int[] seal = new int[MOST_LETTERS];
        final int[] state = new int[MOST_LETTERS];
        final int[] growth = new int[MOST_LETTERS];
        final int[] bin = new int[MOST_LETTERS];
        final int[] held = new int[MOST_LETTERS];
        final int[] hoursBefore = new int[MOST_LETTERS];
        final int[] answered = new int[MOST_LETTERS];
        int count;

        boolean has(int letter) {
            return letter >= 0 && letter < count;
        }

        int append(int itsTo, int itsWeight, int itsSeal) {
            if (count >= MOST_LETTERS) {
                return NONE;
            }
            int letter = count;
            to[letter] = itsTo;
            weight[letter] = itsWeight;
            seal[letter] = itsSeal;
            state[letter] = IN_OFFICE;
            growth[letter] = 0;
            bin[letter] = NONE;
            held[letter] = 0;
            hoursBefore[letter] = 0;
            answered[letter] = NONE;
            count++;
            return letter;
        }

        /** Writes an answer, unless there are as many letters as there may be. */
        boolean answer(int letter, int lag) {
            if (!has(letter)) {
                return false;
            }
            int reply = append(to[letter], weight[letter], seal[letter]);
            if (!has(reply)) {
                return false;
            }
            state[reply] = ON_ITS_WAY;
            hoursBefore[reply] = lag;
            answered[reply] = letter;
            return true;
        }

        int inState(int wanted) {
            int found = 0;
            for (int letter = 0; letter < count; letter++) {
                if (state[letter] == wanted) {
                    found++;
                }
            }
            return found;
        }

        int growthInBins() {
            int sum = 0;
            for (int letter = 0; letter < count; letter++) {
                if (state[letter] == IN_BIN) {
                    sum += growth[letter];
                }
            }
            return sum;
        }

        int growthIn(int wanted) {
            int sum = 0;
            for (int letter = 0; letter < count; letter++) {
                if (state[letter] == IN_BIN && bin[letter] == wanted) {
                    sum += growth[letter];
                }
            }
            return sum;
        }

        int heaviestInOffice() {
            int best = NONE;
            for (int letter = 0; letter < count; letter++) {
                if (state[letter] == IN_OFFICE && (best == NONE || weight[letter] > weight[best])) {
                    best = letter;
                }
            }
            return best;
        }

        int fact(int letter, int what) {
            if (!has(letter)) {
                return 0;
            }
            switch (what) {
                case 0: return to[letter];
                case 1: return weight[letter];
                case 2: return seal[letter];
                case 3: return state[letter];
                case 4: return growth[letter];
                case 5: return bin[letter];
                case 6: return held[letter];
                case 7: return hoursBefore[letter];
                case 8: return answered[letter];
                default: return 0;
            }
        }

        long digestFrom(long start) {
            long d = start;
            for (int letter = 0; letter < count; letter++) {
                for (int what = 0; what < LETTER_FACTS; what++) {
                    d = d * DIGEST_FACTOR + fact(letter, what);
                }
            }
            return d;
        }

        void copyFrom(Letters other) {
            count = other.count;
            System.arraycopy(other.to, 0, to, 0, count);
            System.arraycopy(other.weight, 0, weight, 0, count);
            System.arraycopy(other.seal, 0, seal, 0, count);
            System.arraycopy(other.state, 0, state, 0, count);
            System.arraycopy(other.growth, 0, growth, 0, count);
            System.arraycopy(other.bin, 0, bin, 0, count);
            System.arraycopy(other.held, 0, held, 0, count);
            System.arraycopy(other.hoursBefore, 0, hoursBefore, 0, count);
            System.arraycopy(other.answered, 0, answered, 0, count);
        }
    }

    /** The whole office at one hour, and how an hour goes in it. */
    private static final class Office {
        final Tides tides = new Tides();
        final Bins bins = new Bins();
        final Drowned drowned = new Drowned();
        final Letters letters = new Letters();
        int hour;
        int scrapers = FIRST_SCRAPERS;
        int sorters = FIRST_SORTERS;

        /** The letters that went down in the hour that is now, in their order. */
        private final int[] sunk = new int[MOST_LETTERS];
        private int sunkCount;
        private final boolean[] scraped = new boolean[MOST_LETTERS];

        void copyFrom(Office other) {
            tides.copyFrom(other.tides);
            bins.copyFrom(other.bins);
            drowned.copyFrom(other.drowned);
            letters.copyFrom(other.letters);
            hour = other.hour;
            scrapers = other.scrapers;
            sorters = other.sorters;
        }

        int tideNow() {
            return tides.heightIn(hour);
        }

        int letGoBy(int hours) {
            int down = 0;
            for (int i = 0; i < hours; i++) {
                liveOneHour();
                down += sunkCount;
            }
            return down;
        }

        private void liveOneHour() {
            int tide = tideNow();
            int lettersBefore = letters.count;
            water(tide);
            writeAnswers();
            bringAnswersNearer(lettersBefore, tide);
            scrape(tide);
            sort();
            hour++;
        }

        private void water(int tide) {
            sunkCount = 0;
            for (int letter = 0; letter < letters.count; letter++) {
                if (letters.state[letter] == IN_BIN) {
                    wash(letter, tide);
                }
            }
        }

        private void wash(int letter, int tide) {
            boolean under = bins.isUnder(letters.bin[letter], tide);
            if (under) {
                letters.growth[letter] += 1 + letters.weight[letter] / 3;
            }
            boolean held = under && tide >= drowned.heightOf(letters.to[letter]);
            letters.held[letter] = held ? letters.held[letter] + 1 : 0;
            if (under && letters.growth[letter] >= letters.seal[letter]) {
                leaveBin(letter, LOST);
            } else if (letters.held[letter] >= HOURS_TO_GO_DOWN && sunkCount < MOST_LETTERS) {
                leaveBin(letter, GONE_DOWN);
                sunk[sunkCount] = letter;
                sunkCount++;
            }
        }

        void leaveBin(int letter, int newState) {
            if (!letters.has(letter)) {
                return;
            }
            int bin = letters.bin[letter];
            if (bins.has(bin)) {
                bins.filled[bin]--;
            }
            letters.bin[letter] = NONE;
            letters.held[letter] = 0;
            letters.state[letter] = newState;
        }

        private void writeAnswers() {
            for (int i = 0; i < sunkCount; i++) {
                int letter = sunk[i];
                int one = letters.has(letter) ? letters.to[letter] : NONE;
                if (drowned.gets(one) && letters.answer(letter, drowned.lag[one])) {
                    drowned.written[one]++;
                }
            }
        }

        /** Letters from lettersBefore on were written in this hour and do not move yet. */
        private void bringAnswersNearer(int lettersBefore, int tide) {
            for (int letter = 0; letter < lettersBefore; letter++) {
                if (letters.state[letter] == ON_ITS_WAY) {
                    if (letters.hoursBefore[letter] > 0) {
                        letters.hoursBefore[letter]--;
                    }
                    if (letters.hoursBefore[letter] == 0 && tide <= LOW_TIDE) {
                        letters.state[letter] = HERE;
                    }
                }
            }
        }

        private void scrape(int tide) {
            for (int letter = 0; letter < letters.count; letter++) {
                scraped[letter] = false;
            }
            for (int turn = 0; turn < scrapers; turn++) {
                int letter = mostOvergrown(tide);
                if (!letters.has(letter)) {
                    return;
                }
                letters.growth[letter] = Math.max(0, letters.growth[letter] - SCRAPED_AT_ONCE);
                scraped[letter] = true;
            }
        }

        private int mostOvergrown(int tide) {
            int best = NONE;
            int most = 0;
            for (int letter = 0; letter < letters.count; letter++) {
                if (letters.growth[letter] > most && canBeScraped(letter, tide)) {
                    best = letter;
                    most = letters.growth[letter];
                }
            }
            return best;
        }

        private boolean canBeScraped(int letter, int tide) {
            return letters.state[letter] == IN_BIN && !scraped[letter]
                    && !bins.isUnder(letters.bin[letter], tide);
        }

        private void sort() {
            for (int turn = 0; turn < sorters; turn++) {
                int letter = letters.heaviestInOffice();
                if (!letters.has(letter)) {
                    return;
                }
                int bin = bins.nearestWithRoom(drowned.heightOf(letters.to[letter]));
                if (!bins.has(bin)) {
                    return;
                }
                letters.state[letter] = IN_BIN;
                letters.bin[letter] = bin;
                bins.filled[bin]++;
            }
        }

        int hourOfReach(int height, int bin) {
            int held = 0;
            for (int i = 0; i < HOURS_LOOKED_FOR_REACH; i++) {
                int tide = tides.heightIn(hour + i);
                held = bins.isUnder(bin, tide) && tide >= height ? held + 1 : 0;
                if (held == HOURS_TO_GO_DOWN) {
                    return hour + i;
                }
            }
            return NONE;
        }

        int binFact(int bin, int what) {
            if (!bins.has(bin)) {
                return 0;
            }
            switch (what) {
                case 0: return bins.height[bin];
                case 1: return bins.room[bin];
                case 2: return bins.filled[bin];
                case 3: return bins.isUnder(bin, tideNow()) ? 1 : 0;
                case 4: return letters.growthIn(bin);
                default: return 0;
            }
        }

        int total(int what) {
            switch (what) {
                case 0: return hour;
                case 1: return bins.count;
                case 2: return drowned.count;
                case 3: return letters.count;
                case 10: return tides.count;
                case 11: return scrapers;
                case 12: return sorters;
                default: return letters.inState(what - FIRST_STATE_COUNT);
            }
        }
    }
}
