/** Promises 1 to 6: a new object, the tides, bins, the crew. SentencesTest runs it. */
final class QuaySentences extends Scene {
    private QuaySentences() {
    }

    // ---- Promise 1: A new object

    @Sentence(in = "Promise 1", words = {"Creates an office without bins, drowned and letters, at the hour 0."})
    static void promise1ANewOfficeIsEmpty(Check check) {
        CountedPost post = new CountedPost();
        check.rows("counts", counts(post), 0, 0, 0, 0, 0, 0, 0, 0, 0, 0, 12, 2, 3);
        check.refuses("no bin", INDEX, post, () -> post.bin(0, 0));
        check.refuses("no drowned", INDEX, post, () -> post.drowned(0, 0));
        check.refuses("no letter", INDEX, post, () -> post.letter(0, 0));
        check.sameMean("no barnacles", post.barnacles(), 0.0);
        check.same("nothing goes down", post.pass(200), 0);
        CountedPost other = flood();
        other.addDrowned(0, 1, 1);
        other.bring(0, 1, 60);
        other.pass(9);
        check.rows("another one is new all the same", counts(new CountedPost()), 0, 0, 0, 0, 0, 0, 0, 0, 0, 0, 12, 2, 3);
        check.same("as is its table", new CountedPost().tide(0), 10);
    }

    // ---- Promise 2: beginTides

    @Sentence(in = "Promise 2", words = {
        "Begins a new table of tides with one height; all those that were there are gone."})
    static void promise2ANewTableHasOneHeight(Check check) {
        CountedPost post = new CountedPost();
        post.beginTides(42);
        check.same("heights", post.count(10), 1);
        check.rows("tides", tideRow(post, 14), 42, 42, 42, 42, 42, 42, 42, 42, 42, 42, 42, 42, 42, 42);
        post.addTide(7);
        check.rows("nothing of the first table is left", tideRow(post, 5), 42, 7, 42, 7, 42);
        post.pass(3);
        post.beginTides(8);
        check.rows("a new table in the hour 3", new int[] {post.count(0), post.count(10), post.tide(3)}, 3, 1, 8);
    }

    @Sentence(in = "Promise 2", words = {"Returns how many there were."})
    static void promise2ReturnsHowManyThereWere(Check check) {
        CountedPost post = new CountedPost();
        check.same("12 at first", post.beginTides(1), 12);
        check.same("one", post.beginTides(2), 1);
        post.addTide(3);
        check.same("two", post.beginTides(4), 2);
        for (int i = 1; i < 30; i++) {
            post.addTide(i);
        }
        check.same("30", post.beginTides(5), 30);
    }

    @Sentence(in = "Promise 2", words = {"Throws `IllegalArgumentException` if height is not 0 to 99"})
    static void promise2ThrowsArgument(Check check) {
        CountedPost post = tides(50, 51);
        for (int height : new int[] {-1, 100, LEAST, GREATEST, -99, 199}) {
            check.refuses("height " + height, ARGUMENT, post, () -> post.beginTides(height));
        }
        check.same("height 0", post.beginTides(0), 2);
        check.same("tide", post.tide(0), 0);
        check.same("height 99", post.beginTides(99), 1);
        check.same("tide", post.tide(0), 99);
    }

    // ---- Promise 3: addTide

    @Sentence(in = "Promise 3", words = {"Adds a height behind the last one of the table."})
    static void promise3AddsBehindTheLastOne(Check check) {
        CountedPost post = new CountedPost();
        post.addTide(77);
        check.rows("the 13th", tideRow(post, 14), 10, 20, 35, 55, 75, 90, 95, 85, 65, 45, 25, 12, 77, 10);
        CountedPost full = still(0);
        for (int height = 1; height < 30; height++) {
            full.addTide(height * 3);
        }
        for (int hour = 0; hour < 31; hour++) {
            check.same("tide " + hour, full.tide(hour), hour % 30 * 3);
        }
    }

    @Sentence(in = "Promise 3", words = {"(A table of one height counts as it is, for as long as it has no other one.)"})
    static void promise3ATableOfOneHeightCounts(Check check) {
        CountedPost post = still(60);
        post.addBin(50, 1);
        post.addDrowned(60, 0, 1);
        post.bring(0, 1, 60);
        check.same("heights", post.count(10), 1);
        check.rows("each hour has it", new int[] {post.tide(0), post.tide(1), post.tide(GREATEST)}, 60, 60, 60);
        check.same("reaches", post.reaches(0, 0), 2);
        check.same("foresee", post.foresee(4, 0), 1);
        check.same("hours go by", post.pass(4), 1);
        check.same("another one", post.addTide(61), 2);
        check.rows("the hours have both", tideRow(post, 4), 60, 61, 60, 61);
    }

    @Sentence(in = "Promise 3", words = {"Returns how many there are."})
    static void promise3ReturnsHowManyThereAre(Check check) {
        CountedPost post = new CountedPost();
        for (int many = 13; many <= 30; many++) {
            check.same("behind the first 12", post.addTide(5), many);
            check.same("count", post.count(10), many);
        }
        post.beginTides(5);
        check.same("behind a new one", post.addTide(5), 2);
    }

    @Sentence(in = "Promise 3", words = {"Throws `IllegalArgumentException` if height is not 0 to 99"})
    static void promise3ThrowsArgument(Check check) {
        CountedPost post = still(50);
        for (int height : new int[] {-1, 100, LEAST, GREATEST}) {
            check.refuses("height " + height, ARGUMENT, post, () -> post.addTide(height));
        }
        check.same("height 0", post.addTide(0), 2);
        check.same("height 99", post.addTide(99), 3);
        check.rows("tides", tideRow(post, 3), 50, 0, 99);
    }

    @Sentence(in = "Promise 3", words = {"Throws `IllegalStateException` if there are 30"})
    static void promise3ThrowsStateWith30(Check check) {
        CountedPost post = new CountedPost();
        for (int many = 12; many < 29; many++) {
            post.addTide(many);
        }
        check.same("the 30th", post.addTide(98), 30);
        check.refuses("the 31st", STATE, post, () -> post.addTide(97));
        check.refuses("the 31st again", STATE, post, () -> post.addTide(0));
        check.rows("the last and the first", new int[] {post.tide(29), post.tide(30)}, 98, 10);
        post.beginTides(1);
        check.same("a new table has room", post.addTide(2), 2);
    }

    // ---- Promise 4: tide

    @Sentence(in = "Promise 4", words = {"Returns the height of the tide in it."})
    static void promise4TellsTheTideOfAnyHour(Check check) {
        CountedPost post = new CountedPost();
        check.rows("0, 11, 12, 23, 24", new int[] {post.tide(0), post.tide(11), post.tide(12), post.tide(23), post.tide(24)},
                10, 12, 10, 12, 10);
        check.same("the greatest hour, 7 by the remainder", post.tide(GREATEST), 85);
        check.same("the one before it", post.tide(GREATEST - 1), 95);
        post.pass(7);
        check.rows("told from 0, not from now", tideRow(post, 3), 10, 20, 35);
        check.same("nothing goes by", post.count(0), 7);
    }

    @Sentence(in = "Promise 4", words = {"Throws `IllegalArgumentException` if hour is less than 0"})
    static void promise4ThrowsArgument(Check check) {
        CountedPost post = new CountedPost();
        post.pass(5);
        for (int hour : new int[] {-1, -12, LEAST, LEAST + 1}) {
            check.refuses("hour " + hour, ARGUMENT, post, () -> post.tide(hour));
        }
        check.same("hour 0", post.tide(0), 10);
    }

    // ---- Promise 5: addBin

    @Sentence(in = "Promise 5", words = {"Adds a bin."})
    static void promise5AddsABin(Check check) {
        CountedPost post = still(13);
        post.addBin(12, 20);
        post.addBin(13, 1);
        check.same("bins", post.count(1), 2);
        check.rows("bin 0", binRow(post, 0), 12, 20, 0, 1, 0);
        check.rows("bin 1", binRow(post, 1), 13, 1, 0, 0, 0);
        post.pass(1);
        post.addBin(99, 5);
        check.rows("bin 2, in a later hour", binRow(post, 2), 99, 5, 0, 0, 0);
    }

    @Sentence(in = "Promise 5", words = {"Returns its number."})
    static void promise5ReturnsItsNumber(Check check) {
        CountedPost post = new CountedPost();
        for (int bin = 0; bin < 10; bin++) {
            check.same("number", post.addBin(9 - bin, 1), bin);
        }
    }

    @Sentence(in = "Promise 5", words = {
        "Throws `IllegalArgumentException` if height is not 0 to 99, or room is not 1 to 20"})
    static void promise5ThrowsArgument(Check check) {
        CountedPost post = new CountedPost();
        for (int height : new int[] {-1, 100, LEAST, GREATEST}) {
            check.refuses("height " + height, ARGUMENT, post, () -> post.addBin(height, 1));
        }
        for (int room : new int[] {0, -1, 21, LEAST, GREATEST}) {
            check.refuses("room " + room, ARGUMENT, post, () -> post.addBin(0, room));
        }
        check.refuses("both", ARGUMENT, post, () -> post.addBin(100, 21));
        check.same("the least", post.addBin(0, 1), 0);
        check.same("the greatest", post.addBin(99, 20), 1);
    }

    @Sentence(in = "Promise 5", words = {"Throws `IllegalStateException` if there are 10"})
    static void promise5ThrowsStateWith10(Check check) {
        CountedPost post = new CountedPost();
        for (int bin = 0; bin < 9; bin++) {
            post.addBin(50, 20);
        }
        check.same("the tenth", post.addBin(50, 20), 9);
        check.refuses("the 11th", STATE, post, () -> post.addBin(50, 20));
        check.refuses("the 11th again", STATE, post, () -> post.addBin(0, 1));
        check.refuses("there is no bin 10", INDEX, post, () -> post.bin(10, 0));
    }

    // ---- Promise 6: setCrew

    @Sentence(in = "Promise 6", words = {"Tells how many work."})
    static void promise6TellsHowManyWork(Check check) {
        CountedPost post = still(0);
        post.addBin(50, 20);
        post.addDrowned(99, 0, 1);
        bringMany(post, 10, 0, 1, 60);
        post.setCrew(9, 0);
        post.pass(1);
        check.same("none sorts", post.bin(0, 2), 0);
        post.setCrew(0, 9);
        check.rows("crew", new int[] {post.count(11), post.count(12)}, 0, 9);
        post.pass(1);
        check.same("nine sort", post.bin(0, 2), 9);
        post.pass(1);
        post.beginTides(60);
        post.pass(2);
        post.beginTides(0);
        post.pass(1);
        check.same("none scrapes", post.bin(0, 4), 20);
        post.setCrew(9, 0);
        check.rows("crew", new int[] {post.count(11), post.count(12)}, 9, 0);
        post.pass(1);
        check.same("nine scrape", post.bin(0, 4), 2);
    }

    @Sentence(in = "Promise 6", words = {"Returns how many sorters there were before."})
    static void promise6ReturnsTheSortersOfBefore(Check check) {
        CountedPost post = new CountedPost();
        check.same("3 at first", post.setCrew(7, 9), 3);
        check.same("9", post.setCrew(8, 0), 9);
        check.same("0", post.setCrew(0, 1), 0);
        check.same("1", post.setCrew(0, 1), 1);
    }

    @Sentence(in = "Promise 6", words = {"Throws `IllegalArgumentException` if scrapers or sorters is not 0 to 9"})
    static void promise6ThrowsArgument(Check check) {
        CountedPost post = new CountedPost();
        for (int many : new int[] {-1, 10, LEAST, GREATEST}) {
            check.refuses("scrapers " + many, ARGUMENT, post, () -> post.setCrew(many, 5));
            check.refuses("sorters " + many, ARGUMENT, post, () -> post.setCrew(5, many));
            check.refuses("both " + many, ARGUMENT, post, () -> post.setCrew(many, many));
        }
        check.same("0 and 0", post.setCrew(0, 0), 3);
        check.same("9 and 9", post.setCrew(9, 9), 0);
        check.same("still 9", post.count(12), 9);
    }
}
