/** Promises 13 to 15: hours. SentencesTest runs it. */
final class PassSentences extends Scene {
    private PassSentences() {
    }

    // ---- Promise 13: pass

    @Sentence(in = "Promise 13", words = {"Lets hours go by."})
    static void promise13LetsHoursGoBy(Check check) {
        CountedPost post = new CountedPost();
        post.pass(1);
        check.same("one hour", post.count(0), 1);
        post.pass(200);
        check.same("200 more", post.count(0), 201);
        CountedPost atOnce = busy();
        CountedPost single = busy();
        int down = 0;
        for (int hour = 0; hour < 200; hour++) {
            down += single.pass(1);
        }
        check.same("200 hours at once as 200 times one", atOnce.pass(200), down);
        check.same("digest", atOnce.digest(), single.digest());
    }

    @Sentence(in = "Promise 13", words = {"Returns how many letters have gone down in them."})
    static void promise13ReturnsHowManyHaveGoneDownInThem(Check check) {
        check.same("three hours, the first one of sorting", oneByOne(1, 60).pass(3), 0);
        check.same("four hours", oneByOne(1, 60).pass(4), 1);
        CountedPost post = oneByOne(70, 60);
        post.pass(2);
        check.same("in 200 hours, one of them in the last", post.pass(200), 67);
        check.same("gone down in all", post.count(6), 67);
        CountedPost other = oneByOne(70, 60);
        other.pass(2);
        check.same("in 199 hours", other.pass(199), 66);
        check.same("in the 200th", other.pass(1), 1);
        check.same("those of before are not told again", other.pass(2), 0);
        CountedPost mixed = flood();
        mixed.addDrowned(99, 1, 1);
        mixed.bring(0, 1, 60);
        mixed.bring(0, 9, 12);
        mixed.bring(0, 3, 60);
        check.same("neither the lost nor the answers are told", mixed.pass(200), 2);
    }

    @Sentence(in = "Promise 13", words = {"Throws `IllegalArgumentException` if hours is not 1 to 200"})
    static void promise13ThrowsArgument(Check check) {
        CountedPost post = busy();
        for (int hours : new int[] {0, -1, 201, LEAST, GREATEST}) {
            check.refuses("hours " + hours, ARGUMENT, post, () -> post.pass(hours));
        }
        int before = post.count(0);
        post.pass(1);
        post.pass(200);
        check.same("1 and 200", post.count(0), before + 201);
    }

    // ---- Promise 14: count

    @Sentence(in = "Promise 14", words = {"`what`: 0 the hour,", "Returns this."})
    static void promise14TellsTheHour(Check check) {
        CountedPost post = new CountedPost();
        check.same("at first", post.count(0), 0);
        for (int call = 1; call <= 500; call++) {
            post.pass(200);
        }
        check.same("behind 500 times 200 hours", post.count(0), 100000);
    }

    @Sentence(in = "Promise 14", words = {"1 bins, 2 drowned, 3 letters, answers too,"})
    static void promise14TellsBinsDrownedAndLetters(Check check) {
        CountedPost post = flood();
        check.rows("one bin", new int[] {post.count(1), post.count(2), post.count(3)}, 1, 0, 0);
        post.addDrowned(0, 1, 1);
        post.addDrowned(99, 0, 1);
        bringMany(post, 3, 0, 1, 60);
        check.rows("two drowned, three letters", new int[] {post.count(1), post.count(2), post.count(3)}, 1, 2, 3);
        post.pass(4);
        check.rows("and three answers", new int[] {post.count(1), post.count(2), post.count(3)}, 1, 2, 6);
        for (int i = 0; i < 9; i++) {
            post.addBin(5, 1);
        }
        for (int i = 0; i < 14; i++) {
            post.addDrowned(5, 0, 1);
        }
        bringMany(post, 144, 0, 1, 60);
        check.rows("full", new int[] {post.count(1), post.count(2), post.count(3)}, 10, 16, 150);
    }

    @Sentence(in = "Promise 14", words = {"4 to 9 those with the states 0 to 5,"})
    static void promise14TellsLettersByTheirStates(Check check) {
        CountedPost post = tides(99, 99, 99, 99, 0, 99, 99);
        post.addBin(0, 3);
        post.addBin(98, 1);
        post.addDrowned(0, 1, 1);
        post.addDrowned(0, 1, 60);
        post.addDrowned(99, 0, 1);
        post.setCrew(0, 5);
        post.bring(0, 9, 60);
        post.bring(1, 9, 60);
        post.bring(2, 9, 4);
        post.bring(2, 8, 4);
        check.rows("all in the office", states(post), 4, 0, 0, 0, 0, 0);
        post.pass(1);
        check.rows("all in bins", states(post), 0, 4, 0, 0, 0, 0);
        post.pass(1);
        check.rows("one lost", states(post), 0, 3, 0, 1, 0, 0);
        post.pass(2);
        check.rows("two gone down, two answers on their way", states(post), 0, 0, 2, 2, 2, 0);
        post.setCrew(0, 1);
        bringMany(post, 3, 2, 1, 60);
        post.pass(1);
        check.rows("one answer here, one in a bin, two in the office", states(post), 2, 1, 2, 2, 1, 1);
    }

    private static int[] states(CountedPost post) {
        int[] row = new int[6];
        for (int state = 0; state < 6; state++) {
            row[state] = post.count(4 + state);
        }
        return row;
    }

    @Sentence(in = "Promise 14", words = {"10 heights of the table,"})
    static void promise14TellsTheHeightsOfTheTable(Check check) {
        CountedPost post = new CountedPost();
        check.same("at first", post.count(10), 12);
        post.beginTides(0);
        for (int many = 1; many <= 30; many++) {
            check.same("heights", post.count(10), many);
            if (many < 30) {
                post.addTide(0);
            }
        }
    }

    @Sentence(in = "Promise 14", words = {"11 scrapers, 12 sorters"})
    static void promise14TellsScrapersAndSorters(Check check) {
        CountedPost post = new CountedPost();
        check.rows("at first", new int[] {post.count(11), post.count(12)}, 2, 3);
        post.setCrew(0, 9);
        check.rows("0 and 9", new int[] {post.count(11), post.count(12)}, 0, 9);
        post.setCrew(9, 0);
        check.rows("9 and 0", new int[] {post.count(11), post.count(12)}, 9, 0);
    }

    @Sentence(in = "Promise 14", words = {"Throws `IndexOutOfBoundsException` if what is not 0 to 12"})
    static void promise14ThrowsIndex(Check check) {
        CountedPost post = new CountedPost();
        for (int what : new int[] {-1, 13, LEAST, GREATEST}) {
            check.refuses("what " + what, INDEX, post, () -> post.count(what));
        }
        check.rows("the least and the greatest what", new int[] {post.count(0), post.count(12)}, 0, 3);
    }

    // ---- Promise 15: binFor

    @Sentence(in = "Promise 15", words = {"Returns the bin into which a letter to this one would be sorted now;"})
    static void promise15TellsWhereALetterWouldBeSorted(Check check) {
        CountedPost post = still(99);
        post.addDrowned(50, 0, 1);
        post.addDrowned(0, 0, 1);
        int[] heights = {61, 60, 40, 40, 41, 58};
        int[] due = {0, 1, 2, 2, 4, 5};
        for (int bin = 0; bin < heights.length; bin++) {
            post.addBin(heights[bin], 1);
            check.same("a new bin at " + heights[bin], post.binFor(0), due[bin]);
        }
        check.same("to the one at 0", post.binFor(1), 2);
        post.setCrew(0, 1);
        for (int letter = 0; letter < heights.length; letter++) {
            int told = post.binFor(0);
            post.bring(0, 9, 60);
            check.same("a letter in the office takes no room", post.binFor(0), told);
            post.beginTides(letter < 3 ? 99 : 0);
            post.pass(1);
            check.same("letter " + letter + " is sorted there", post.letter(letter, BIN), told);
            post.beginTides(0);
        }
        post.takeOut(3);
        int free = post.binFor(0);
        post.pass(1);
        check.same("what is taken out goes where there is room", post.letter(3, BIN), free);
    }

    @Sentence(in = "Promise 15", words = {"-1 if none has room."})
    static void promise15TellsThatNoneHasRoom(Check check) {
        CountedPost post = flood();
        post.addDrowned(0, 0, 1);
        bringMany(post, 20, 0, 1, 60);
        post.beginTides(0);
        post.pass(2);
        check.rows("18 of 20", new int[] {post.bin(0, 2), post.binFor(0)}, 18, 0);
        post.setCrew(0, 1);
        post.pass(1);
        check.rows("19 of 20", new int[] {post.bin(0, 2), post.binFor(0)}, 19, 0);
        post.pass(1);
        check.rows("20 of 20", new int[] {post.bin(0, 2), post.binFor(0)}, 20, -1);
        post.takeOut(7);
        check.same("19 again", post.binFor(0), 0);
        CountedPost none = new CountedPost();
        none.addDrowned(0, 0, 1);
        check.same("no bin at all", none.binFor(0), -1);
        for (int bin = 0; bin < 10; bin++) {
            none.addBin(10 - bin, 1);
            check.same("the newest is the nearest", none.binFor(0), bin);
        }
        none.setCrew(0, 9);
        bringMany(none, 10, 0, 1, 60);
        none.beginTides(0);
        none.pass(1);
        check.same("one of ten has room", none.binFor(0), 0);
        none.pass(1);
        check.same("none of ten has room", none.binFor(0), -1);
    }

    @Sentence(in = "Promise 15", words = {"Throws `IndexOutOfBoundsException` if there is no such one of the drowned"})
    static void promise15ThrowsIndex(Check check) {
        CountedPost post = new CountedPost();
        post.addBin(0, 1);
        check.refuses("nobody is there", INDEX, post, () -> post.binFor(0));
        post.addDrowned(0, 0, 1);
        post.addDrowned(0, 0, 1);
        for (int one : new int[] {-1, 2, 15, 16, LEAST, GREATEST}) {
            check.refuses("one " + one, INDEX, post, () -> post.binFor(one));
        }
        check.rows("the first and the last", new int[] {post.binFor(0), post.binFor(1)}, 0, 0);
    }
}
