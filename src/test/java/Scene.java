/** What tests of the promises share: names of numbers, rows of answers, and offices to begin with. */
abstract class Scene {
    static final Class<IllegalArgumentException> ARGUMENT = IllegalArgumentException.class;
    static final Class<IllegalStateException> STATE = IllegalStateException.class;
    static final Class<IndexOutOfBoundsException> INDEX = IndexOutOfBoundsException.class;

    static final int LEAST = Integer.MIN_VALUE;
    static final int GREATEST = Integer.MAX_VALUE;

    // What letter() tells under these numbers.
    static final int TO = 0;
    static final int WEIGHT = 1;
    static final int SEAL = 2;
    static final int STATE_OF = 3;
    static final int GROWTH = 4;
    static final int BIN = 5;
    static final int HELD = 6;
    static final int BEFORE = 7;
    static final int ANSWERED = 8;

    // The states of letters.
    static final int OFFICE = 0;
    static final int IN_BIN = 1;
    static final int DOWN = 2;
    static final int LOST = 3;
    static final int ON_ITS_WAY = 4;
    static final int HERE = 5;

    static int[] counts(CountedPost post) {
        int[] row = new int[13];
        for (int what = 0; what < row.length; what++) {
            row[what] = post.count(what);
        }
        return row;
    }

    static int[] letterRow(CountedPost post, int letter) {
        int[] row = new int[9];
        for (int what = 0; what < row.length; what++) {
            row[what] = post.letter(letter, what);
        }
        return row;
    }

    static int[] drownedRow(CountedPost post, int one) {
        int[] row = new int[5];
        for (int what = 0; what < row.length; what++) {
            row[what] = post.drowned(one, what);
        }
        return row;
    }

    static int[] binRow(CountedPost post, int bin) {
        int[] row = new int[5];
        for (int what = 0; what < row.length; what++) {
            row[what] = post.bin(bin, what);
        }
        return row;
    }

    /** What letter() tells of every letter under one number. */
    static int[] column(CountedPost post, int what) {
        int[] row = new int[post.count(3)];
        for (int letter = 0; letter < row.length; letter++) {
            row[letter] = post.letter(letter, what);
        }
        return row;
    }

    /** The tides of the first hours. */
    static int[] tideRow(CountedPost post, int hours) {
        int[] row = new int[hours];
        for (int hour = 0; hour < hours; hour++) {
            row[hour] = post.tide(hour);
        }
        return row;
    }

    static int[] foreseen(CountedPost post, int what, int most) {
        int[] row = new int[most];
        for (int hours = 1; hours <= most; hours++) {
            row[hours - 1] = post.foresee(hours, what);
        }
        return row;
    }

    static int[] fates(CountedPost post, int letter, int most) {
        int[] row = new int[most];
        for (int hours = 1; hours <= most; hours++) {
            row[hours - 1] = post.fate(letter, hours);
        }
        return row;
    }

    static long digestBehind(long start, int... numbers) {
        long d = start;
        for (int number : numbers) {
            d = d * 31 + number;
        }
        return d;
    }

    /** An office with this table of tides. */
    static CountedPost tides(int first, int... others) {
        CountedPost post = new CountedPost();
        post.beginTides(first);
        for (int height : others) {
            post.addTide(height);
        }
        return post;
    }

    /** An office in which the tide stands still. */
    static CountedPost still(int tide) {
        return tides(tide);
    }

    /** The tide stands still at 99 over the bin 0, which has room for 20; nine sort and nobody scrapes. */
    static CountedPost flood() {
        CountedPost post = still(99);
        post.addBin(0, 20);
        post.setCrew(0, 9);
        return post;
    }

    /** One bin with room for one letter under a tide that stays; the letters are sorted one by one. */
    static CountedPost oneByOne(int letters, int seal) {
        CountedPost post = still(99);
        post.addBin(0, 1);
        post.addDrowned(0, 0, 1);
        post.setCrew(0, 1);
        bringMany(post, letters, 0, 1, seal);
        return post;
    }

    /** An office in the middle of its work, with letters in each state. */
    static CountedPost busy() {
        CountedPost post = new CountedPost();
        int[] binHeights = {60, 15, 40};
        int[] drownedHeights = {70, 20, 50, 90};
        for (int bin = 0; bin < 3; bin++) {
            post.addBin(binHeights[bin], 3 + bin);
        }
        for (int one = 0; one < 4; one++) {
            post.addDrowned(drownedHeights[one], (one + 1) % 3, 3 + 12 * one);
        }
        post.setCrew(1, 4);
        for (int i = 0; i < 24; i++) {
            post.bring(i % 4, 1 + i * 5 % 9, 9 + i * 7 % 40);
        }
        post.pass(18);
        bringMany(post, 2, 1, 4, 50);
        return post;
    }

    static void bringMany(CountedPost post, int letters, int to, int weight, int seal) {
        for (int i = 0; i < letters; i++) {
            post.bring(to, weight, seal);
        }
    }
}
