/** Promises 7 to 12: the drowned and their letters. SentencesTest runs it. */
final class LetterSentences extends Scene {
    private LetterSentences() {
    }

    // ---- Promise 7: addDrowned

    @Sentence(in = "Promise 7", words = {"Adds one of the drowned."})
    static void promise7AddsOneOfTheDrowned(Check check) {
        CountedPost post = new CountedPost();
        post.addDrowned(12, 3, 45);
        post.addDrowned(99, 5, 60);
        post.addDrowned(0, 0, 1);
        check.same("drowned", post.count(2), 3);
        check.rows("drowned 0", drownedRow(post, 0), 12, 3, 45, 0, 0);
        check.rows("drowned 1", drownedRow(post, 1), 99, 5, 60, 0, 0);
        check.rows("drowned 2", drownedRow(post, 2), 0, 0, 1, 0, 0);
    }

    @Sentence(in = "Promise 7", words = {"Returns the number."})
    static void promise7ReturnsTheNumber(Check check) {
        CountedPost post = new CountedPost();
        for (int one = 0; one < 16; one++) {
            check.same("number", post.addDrowned(50, 0, 1), one);
        }
    }

    @Sentence(in = "Promise 7", words = {
        "Throws `IllegalArgumentException` if height is not 0 to 99, n is not 0 to 5, or lag is not 1 to 60"})
    static void promise7ThrowsArgument(Check check) {
        CountedPost post = new CountedPost();
        for (int height : new int[] {-1, 100, LEAST, GREATEST}) {
            check.refuses("height " + height, ARGUMENT, post, () -> post.addDrowned(height, 0, 1));
        }
        for (int n : new int[] {-1, 6, LEAST, GREATEST}) {
            check.refuses("n " + n, ARGUMENT, post, () -> post.addDrowned(0, n, 1));
        }
        for (int lag : new int[] {0, -1, 61, LEAST, GREATEST}) {
            check.refuses("lag " + lag, ARGUMENT, post, () -> post.addDrowned(0, 0, lag));
        }
        check.refuses("all", ARGUMENT, post, () -> post.addDrowned(100, 6, 61));
        check.same("the least", post.addDrowned(0, 0, 1), 0);
        check.same("the greatest", post.addDrowned(99, 5, 60), 1);
    }

    @Sentence(in = "Promise 7", words = {"Throws `IllegalStateException` if there are 16"})
    static void promise7ThrowsStateWith16(Check check) {
        CountedPost post = new CountedPost();
        for (int one = 0; one < 15; one++) {
            post.addDrowned(50, 1, 9);
        }
        check.same("the 16th", post.addDrowned(50, 1, 9), 15);
        check.refuses("the 17th", STATE, post, () -> post.addDrowned(50, 1, 9));
        check.refuses("the 17th again", STATE, post, () -> post.addDrowned(0, 0, 1));
        check.refuses("there is none with the number 16", INDEX, post, () -> post.drowned(16, 0));
        check.same("a letter to the 16th", post.bring(15, 1, 1), 0);
    }

    // ---- Promise 8: bring

    @Sentence(in = "Promise 8", words = {"Brings a letter."})
    static void promise8BringsALetterIntoTheOffice(Check check) {
        CountedPost post = flood();
        post.addDrowned(0, 0, 1);
        post.addDrowned(0, 0, 1);
        post.bring(1, 9, 60);
        post.bring(0, 1, 1);
        check.rows("letter 0", letterRow(post, 0), 1, 9, 60, OFFICE, 0, -1, 0, 0, -1);
        check.rows("letter 1", letterRow(post, 1), 0, 1, 1, OFFICE, 0, -1, 0, 0, -1);
        check.rows("letters, in the office", new int[] {post.count(3), post.count(4)}, 2, 2);
        check.rows("no hour goes by, nothing is got", new int[] {post.count(0), post.drowned(1, 3)}, 0, 0);
    }

    @Sentence(in = "Promise 8", words = {"Returns its number."})
    static void promise8ReturnsItsNumber(Check check) {
        CountedPost post = flood();
        post.addDrowned(0, 1, 60);
        check.same("the first", post.bring(0, 1, 60), 0);
        check.same("the second", post.bring(0, 1, 1), 1);
        post.pass(4);
        check.same("behind one that is lost, and an answer", post.bring(0, 1, 60), 3);
    }

    @Sentence(in = "Promise 8", words = {"Throws `IndexOutOfBoundsException` if there is no such one of the drowned"})
    static void promise8ThrowsIndex(Check check) {
        CountedPost post = new CountedPost();
        check.refuses("nobody is there", INDEX, post, () -> post.bring(0, 1, 1));
        post.addDrowned(0, 0, 1);
        post.addDrowned(0, 0, 1);
        for (int to : new int[] {-1, 2, 15, 16, LEAST, GREATEST}) {
            check.refuses("to " + to, INDEX, post, () -> post.bring(to, 1, 1));
        }
        check.same("to the first", post.bring(0, 1, 1), 0);
        check.same("to the last", post.bring(1, 1, 1), 1);
    }

    @Sentence(in = "Promise 8", words = {
        "Throws `IllegalArgumentException` if weight is not 1 to 9, or seal is not 1 to 60"})
    static void promise8ThrowsArgument(Check check) {
        CountedPost post = new CountedPost();
        post.addDrowned(0, 0, 1);
        for (int weight : new int[] {0, -1, 10, LEAST, GREATEST}) {
            check.refuses("weight " + weight, ARGUMENT, post, () -> post.bring(0, weight, 1));
        }
        for (int seal : new int[] {0, -1, 61, LEAST, GREATEST}) {
            check.refuses("seal " + seal, ARGUMENT, post, () -> post.bring(0, 1, seal));
        }
        check.refuses("both", ARGUMENT, post, () -> post.bring(0, 10, 61));
        check.same("the least", post.bring(0, 1, 1), 0);
        check.same("the greatest", post.bring(0, 9, 60), 1);
    }

    @Sentence(in = "Promise 8", words = {"Throws `IllegalStateException` if there are 150"})
    static void promise8ThrowsStateWith150(Check check) {
        CountedPost post = new CountedPost();
        post.addDrowned(0, 0, 1);
        bringMany(post, 149, 0, 1, 1);
        check.same("the 150th", post.bring(0, 2, 3), 149);
        check.refuses("the 151st", STATE, post, () -> post.bring(0, 2, 3));
        check.refuses("the 151st again", STATE, post, () -> post.bring(0, 1, 1));
        check.rows("the last one", letterRow(post, 149), 0, 2, 3, OFFICE, 0, -1, 0, 0, -1);
        CountedPost answered = flood();
        answered.addDrowned(0, 1, 60);
        bringMany(answered, 1, 0, 1, 60);
        answered.pass(4);
        bringMany(answered, 148, 0, 1, 60);
        check.refuses("the 151st, with an answer among them", STATE, answered, () -> answered.bring(0, 1, 60));
        answered.pass(60);
        check.refuses("though all have gone down", STATE, answered, () -> answered.bring(0, 1, 60));
    }

    // ---- Promise 9: takeOut

    @Sentence(in = "Promise 9", words = {
        "Takes a letter out of its bin, back into the office (held no hour; its barnacles stay)."})
    static void promise9TakesALetterBackIntoTheOffice(Check check) {
        CountedPost post = flood();
        post.addDrowned(99, 0, 1);
        post.bring(0, 4, 60);
        post.bring(0, 1, 60);
        post.pass(3);
        check.rows("in the bin", letterRow(post, 0), 0, 4, 60, IN_BIN, 4, 0, 2, 0, -1);
        post.beginTides(0);
        post.takeOut(0);
        check.rows("in the office", letterRow(post, 0), 0, 4, 60, OFFICE, 4, -1, 0, 0, -1);
        check.rows("the bin", binRow(post, 0), 0, 20, 1, 0, 2);
        check.same("no hour goes by", post.count(0), 3);
        post.pass(1);
        check.rows("sorted again, with its barnacles", letterRow(post, 0), 0, 4, 60, IN_BIN, 4, 0, 0, 0, -1);
        post.beginTides(99);
        check.same("held from the beginning, as is the other one", post.pass(2), 0);
        check.same("three hours", post.pass(1), 2);
        check.same("barnacles of all hours", post.letter(0, GROWTH), 10);
    }

    @Sentence(in = "Promise 9", words = {"Returns the bin in which it was."})
    static void promise9ReturnsTheBin(Check check) {
        CountedPost post = still(0);
        for (int bin = 0; bin < 10; bin++) {
            post.addBin(bin * 10, 1);
            post.addDrowned(bin * 10, 0, 1);
            post.bring(bin, 1, 60);
        }
        post.pass(4);
        for (int letter = 9; letter >= 0; letter--) {
            check.same("bin", post.takeOut(letter), letter);
        }
        check.same("all are in the office", post.count(4), 10);
    }

    @Sentence(in = "Promise 9", words = {"Throws `IndexOutOfBoundsException` if there is no such letter"})
    static void promise9ThrowsIndex(Check check) {
        CountedPost post = still(0);
        post.addBin(0, 2);
        post.addDrowned(0, 0, 1);
        check.refuses("no letter at all", INDEX, post, () -> post.takeOut(0));
        bringMany(post, 2, 0, 1, 60);
        post.pass(1);
        for (int letter : new int[] {-1, 2, 149, 150, LEAST, GREATEST}) {
            check.refuses("letter " + letter, INDEX, post, () -> post.takeOut(letter));
        }
        check.same("the last one", post.takeOut(1), 0);
        check.same("the first one", post.takeOut(0), 0);
    }

    @Sentence(in = "Promise 9", words = {"Throws `IllegalStateException` if it is in no bin,"})
    static void promise9ThrowsStateForALetterInNoBin(Check check) {
        CountedPost post = still(99);
        post.addBin(0, 3);
        post.addDrowned(0, 2, 1);
        post.addDrowned(0, 0, 1);
        post.bring(0, 1, 60);
        post.bring(0, 1, 60);
        post.bring(1, 1, 1);
        check.refuses("in the office", STATE, post, () -> post.takeOut(0));
        post.pass(4);
        check.rows("states", column(post, STATE_OF), DOWN, DOWN, LOST, ON_ITS_WAY);
        post.beginTides(31);
        check.refuses("gone down", STATE, post, () -> post.takeOut(0));
        check.refuses("lost", STATE, post, () -> post.takeOut(2));
        check.refuses("on its way", STATE, post, () -> post.takeOut(3));
        post.beginTides(0);
        post.pass(1);
        check.same("the answer is here", post.letter(3, STATE_OF), HERE);
        check.refuses("an answer that is here", STATE, post, () -> post.takeOut(3));
        check.refuses("gone down, at low tide", STATE, post, () -> post.takeOut(1));
        CountedPost twice = still(0);
        twice.addBin(0, 1);
        twice.addDrowned(0, 0, 1);
        twice.bring(0, 1, 60);
        twice.pass(1);
        twice.takeOut(0);
        check.refuses("taken out before", STATE, twice, () -> twice.takeOut(0));
    }

    @Sentence(in = "Promise 9", words = {"or its bin is under water with the tide of the hour that is now"})
    static void promise9ThrowsStateForABinUnderWaterNow(Check check) {
        CountedPost post = tides(0, 50, 51, 49);
        post.addBin(50, 1);
        post.addDrowned(50, 0, 1);
        post.bring(0, 1, 60);
        post.pass(1);
        check.same("a tide as high as the bin", post.takeOut(0), 0);
        post.pass(1);
        check.refuses("a tide higher by 1", STATE, post, () -> post.takeOut(0));
        post.pass(1);
        check.same("the next hour is dry", post.takeOut(0), 0);
        CountedPost two = still(45);
        two.addBin(40, 1);
        two.addBin(50, 1);
        two.addDrowned(40, 0, 1);
        two.addDrowned(50, 0, 1);
        two.bring(0, 1, 60);
        two.bring(1, 1, 60);
        two.pass(1);
        check.refuses("its own bin is under water", STATE, two, () -> two.takeOut(0));
        check.same("another bin is under water", two.takeOut(1), 1);
    }

    // ---- Promise 10: letter

    @Sentence(in = "Promise 10", words = {"`what`: 0 to whom (from whom) it is, 1 its weight, 2 its seal,", "Returns this."})
    static void promise10TellsToWhomTheWeightAndTheSeal(Check check) {
        CountedPost post = flood();
        post.addDrowned(0, 0, 1);
        post.addDrowned(0, 1, 1);
        post.bring(0, 1, 60);
        post.bring(1, 9, 13);
        post.pass(4);
        check.rows("to whom, from whom", column(post, TO), 0, 1, 1);
        check.rows("weights", column(post, WEIGHT), 1, 9, 9);
        check.rows("seals, as strong as at first", column(post, SEAL), 60, 13, 13);
    }

    @Sentence(in = "Promise 10", words = {"3 its state,"})
    static void promise10TellsTheState(Check check) {
        CountedPost post = tides(99, 99, 99, 99, 30);
        post.addBin(0, 2);
        post.addDrowned(0, 1, 1);
        post.bring(0, 1, 60);
        post.bring(0, 1, 3);
        int[][] due = {{0, 0}, {1, 1}, {1, 1}, {1, 1}, {2, 3, 4}, {2, 3, 5}, {2, 3, 5}};
        for (int hour = 0; hour < due.length; hour++) {
            check.rows("states in the hour " + hour, column(post, STATE_OF), due[hour]);
            post.pass(1);
        }
    }

    @Sentence(in = "Promise 10", words = {"4 its barnacles,"})
    static void promise10TellsTheBarnacles(Check check) {
        CountedPost post = flood();
        post.addDrowned(99, 1, 1);
        post.bring(0, 9, 60);
        post.bring(0, 9, 8);
        post.bring(0, 1, 60);
        int[][] due = {{0, 0, 0}, {0, 0, 0}, {4, 4, 1}, {8, 8, 2}, {12, 8, 3, 0, 0}};
        for (int hour = 0; hour < due.length; hour++) {
            check.rows("barnacles in the hour " + hour, column(post, GROWTH), due[hour]);
            post.pass(1);
        }
        post.pass(20);
        check.rows("what is lost or has gone down keeps them", column(post, GROWTH), 12, 8, 3, 0, 0);
    }

    @Sentence(in = "Promise 10", words = {"5 its bin, -1 if it is in none,"})
    static void promise10TellsTheBin(Check check) {
        CountedPost post = still(99);
        for (int bin = 0; bin < 10; bin++) {
            post.addBin(50, 1);
        }
        post.addDrowned(50, 5, 1);
        post.setCrew(0, 9);
        bringMany(post, 10, 0, 1, 60);
        check.rows("in the office", column(post, BIN), -1, -1, -1, -1, -1, -1, -1, -1, -1, -1);
        post.pass(2);
        check.rows("in the bins", column(post, BIN), 0, 1, 2, 3, 4, 5, 6, 7, 8, 9);
        post.beginTides(0);
        post.takeOut(9);
        check.same("taken out", post.letter(9, BIN), -1);
        post.beginTides(99);
        post.setCrew(0, 0);
        post.pass(2);
        check.rows("gone down, and an answer on its way", column(post, BIN), -1, -1, -1, -1, -1, -1, -1, -1, -1, -1, -1);
    }

    @Sentence(in = "Promise 10", words = {"6 for how many hours it has been held (0 if it is in no bin),"})
    static void promise10TellsForHowManyHoursItHasBeenHeld(Check check) {
        CountedPost post = flood();
        post.addDrowned(99, 1, 1);
        post.bring(0, 1, 60);
        post.bring(0, 1, 2);
        int[][] due = {{0, 0}, {0, 0}, {1, 1}, {2, 0}, {0, 0, 0}};
        for (int hour = 0; hour < due.length; hour++) {
            check.rows("held in the hour " + hour, column(post, HELD), due[hour]);
            post.pass(1);
        }
    }

    @Sentence(in = "Promise 10", words = {"7 the hours before an answer on its way, otherwise 0,"})
    static void promise10TellsTheHoursBeforeAnAnswer(Check check) {
        CountedPost post = flood();
        post.addDrowned(0, 1, 3);
        post.bring(0, 1, 60);
        int[][] due = {{0}, {0}, {0}, {0}, {0, 3}, {0, 2}, {0, 1}, {0, 0}, {0, 0}};
        for (int hour = 0; hour < due.length; hour++) {
            check.rows("hours before it in the hour " + hour, column(post, BEFORE), due[hour]);
            post.pass(1);
        }
        post.beginTides(0);
        post.pass(1);
        check.rows("here", column(post, BEFORE), 0, 0);
    }

    @Sentence(in = "Promise 10", words = {"8 the letter that it answers, -1 if it is no answer"})
    static void promise10TellsTheLetterThatItAnswers(Check check) {
        CountedPost post = flood();
        post.addDrowned(0, 2, 1);
        bringMany(post, 4, 0, 1, 60);
        post.pass(4);
        check.rows("on their way", column(post, ANSWERED), -1, -1, -1, -1, 1, 3);
        post.beginTides(0);
        post.pass(1);
        check.rows("here", column(post, ANSWERED), -1, -1, -1, -1, 1, 3);
    }

    @Sentence(in = "Promise 10", words = {
        "Throws `IndexOutOfBoundsException` if there is no such letter, or what is not 0 to 8"})
    static void promise10ThrowsIndex(Check check) {
        CountedPost post = flood();
        post.addDrowned(0, 1, 1);
        check.refuses("no letter at all", INDEX, post, () -> post.letter(0, 0));
        post.bring(0, 1, 60);
        check.refuses("the answer is not yet there", INDEX, post, () -> post.letter(1, 0));
        post.pass(4);
        for (int letter : new int[] {-1, 2, 149, 150, LEAST, GREATEST}) {
            check.refuses("letter " + letter, INDEX, post, () -> post.letter(letter, 0));
            check.refuses("letter " + letter + ", what 9", INDEX, post, () -> post.letter(letter, 9));
        }
        for (int what : new int[] {-1, 9, LEAST, GREATEST}) {
            check.refuses("what " + what, INDEX, post, () -> post.letter(0, what));
        }
        check.rows("the least and the greatest what", new int[] {post.letter(1, 0), post.letter(1, 8)}, 0, 0);
    }

    // ---- Promise 11: drowned

    @Sentence(in = "Promise 11", words = {"`what`: 0 the height, 1 n, 2 the lag,", "Returns this."})
    static void promise11TellsTheHeightNAndTheLag(Check check) {
        CountedPost post = new CountedPost();
        for (int one = 0; one < 16; one++) {
            post.addDrowned(99 - 6 * one, one % 6, 1 + one);
        }
        for (int one = 0; one < 16; one++) {
            check.rows("drowned " + one, drownedRow(post, one), 99 - 6 * one, one % 6, 1 + one, 0, 0);
        }
    }

    @Sentence(in = "Promise 11", words = {"3 how many letters have gone down there,"})
    static void promise11TellsHowManyHaveGoneDownThere(Check check) {
        CountedPost post = flood();
        post.addDrowned(0, 0, 1);
        post.addDrowned(99, 0, 1);
        bringMany(post, 2, 0, 1, 60);
        post.bring(1, 1, 60);
        post.bring(1, 9, 12);
        post.pass(3);
        check.rows("none yet", new int[] {post.drowned(0, 3), post.drowned(1, 3)}, 0, 0);
        post.pass(1);
        check.rows("without the lost", new int[] {post.drowned(0, 3), post.drowned(1, 3)}, 2, 1);
        post.bring(0, 1, 60);
        post.pass(100);
        check.rows("later ones too", new int[] {post.drowned(0, 3), post.drowned(1, 3)}, 3, 1);
    }

    @Sentence(in = "Promise 11", words = {"4 how many answers this one has written"})
    static void promise11TellsHowManyAnswersAreWritten(Check check) {
        CountedPost post = flood();
        post.addDrowned(0, 2, 60);
        post.addDrowned(0, 0, 60);
        bringMany(post, 3, 0, 1, 60);
        bringMany(post, 3, 1, 1, 60);
        post.pass(3);
        check.rows("none yet", new int[] {post.drowned(0, 4), post.drowned(1, 4)}, 0, 0);
        post.pass(1);
        check.rows("on its way", new int[] {post.drowned(0, 4), post.drowned(1, 4)}, 1, 0);
        post.bring(0, 1, 60);
        post.pass(100);
        check.rows("two", new int[] {post.drowned(0, 4), post.drowned(1, 4)}, 2, 0);
        post.beginTides(0);
        post.pass(1);
        check.same("here", post.count(9), 2);
        check.same("written still", post.drowned(0, 4), 2);
        CountedPost full = flood();
        full.addDrowned(0, 1, 60);
        bringMany(full, 150, 0, 1, 60);
        full.pass(50);
        check.rows("none can be written any more", drownedRow(full, 0), 0, 1, 60, 150, 0);
    }

    @Sentence(in = "Promise 11", words = {
        "Throws `IndexOutOfBoundsException` if there is no such one, or what is not 0 to 4"})
    static void promise11ThrowsIndex(Check check) {
        CountedPost post = new CountedPost();
        check.refuses("nobody is there", INDEX, post, () -> post.drowned(0, 0));
        post.addDrowned(7, 0, 1);
        post.addDrowned(8, 0, 1);
        for (int one : new int[] {-1, 2, 15, 16, LEAST, GREATEST}) {
            check.refuses("one " + one, INDEX, post, () -> post.drowned(one, 0));
            check.refuses("one " + one + ", what 5", INDEX, post, () -> post.drowned(one, 5));
        }
        for (int what : new int[] {-1, 5, LEAST, GREATEST}) {
            check.refuses("what " + what, INDEX, post, () -> post.drowned(0, what));
        }
        check.rows("the last one", new int[] {post.drowned(1, 0), post.drowned(1, 4)}, 8, 0);
    }

    // ---- Promise 12: bin

    @Sentence(in = "Promise 12", words = {"`what`: 0 its height, 1 its room,", "Returns this."})
    static void promise12TellsTheHeightAndTheRoom(Check check) {
        CountedPost post = still(0);
        for (int bin = 0; bin < 10; bin++) {
            post.addBin(99 - 11 * bin, 20 - bin);
        }
        for (int bin = 0; bin < 10; bin++) {
            check.rows("bin " + bin, binRow(post, bin), 99 - 11 * bin, 20 - bin, 0, 0, 0);
        }
    }

    @Sentence(in = "Promise 12", words = {"2 letters in it,"})
    static void promise12TellsTheLettersInIt(Check check) {
        CountedPost post = still(99);
        post.addBin(0, 20);
        post.addBin(99, 2);
        post.addDrowned(0, 0, 1);
        post.addDrowned(99, 0, 1);
        post.setCrew(0, 9);
        post.bring(0, 1, 60);
        post.bring(0, 1, 1);
        bringMany(post, 3, 1, 1, 60);
        int[][] due = {{0, 0}, {3, 2}, {2, 2}, {2, 2}, {0, 2}};
        for (int hour = 0; hour < due.length; hour++) {
            check.rows("letters in the hour " + hour, new int[] {post.bin(0, 2), post.bin(1, 2)}, due[hour]);
            post.pass(1);
        }
        post.takeOut(2);
        check.same("one is taken out", post.bin(1, 2), 1);
    }

    @Sentence(in = "Promise 12", words = {"3 1 if it is under water with the tide of the hour that is now, else 0,"})
    static void promise12TellsWhetherItIsUnderWaterNow(Check check) {
        CountedPost post = tides(50, 51, 49);
        post.addBin(50, 1);
        check.same("as high", post.bin(0, 3), 0);
        post.pass(1);
        check.same("higher by 1", post.bin(0, 3), 1);
        post.pass(1);
        check.same("lower by 1", post.bin(0, 3), 0);
        post.beginTides(99);
        check.same("a new table, the same hour", post.bin(0, 3), 1);
    }

    @Sentence(in = "Promise 12", words = {"4 barnacles on all letters in it"})
    static void promise12TellsTheBarnaclesInIt(Check check) {
        CountedPost post = still(60);
        post.addBin(40, 20);
        post.addBin(50, 20);
        post.addDrowned(0, 0, 1);
        post.addDrowned(99, 0, 1);
        post.setCrew(0, 9);
        check.same("no letter", post.bin(0, 4), 0);
        post.bring(0, 1, 60);
        post.bring(0, 9, 60);
        post.bring(1, 3, 60);
        post.pass(1);
        check.rows("no barnacle", new int[] {post.bin(0, 4), post.bin(1, 4)}, 0, 0);
        post.pass(2);
        check.rows("two hours", new int[] {post.bin(0, 4), post.bin(1, 4)}, 10, 4);
        post.beginTides(40);
        post.takeOut(1);
        check.rows("one is taken out", new int[] {post.bin(0, 4), post.bin(1, 4)}, 2, 4);
        post.beginTides(60);
        post.setCrew(0, 0);
        post.pass(1);
        check.rows("one has gone down", new int[] {post.bin(0, 4), post.bin(1, 4)}, 0, 6);
    }

    @Sentence(in = "Promise 12", words = {
        "Throws `IndexOutOfBoundsException` if there is no such bin, or what is not 0 to 4"})
    static void promise12ThrowsIndex(Check check) {
        CountedPost post = new CountedPost();
        check.refuses("no bin at all", INDEX, post, () -> post.bin(0, 0));
        post.addBin(7, 1);
        post.addBin(8, 1);
        for (int bin : new int[] {-1, 2, 9, 10, LEAST, GREATEST}) {
            check.refuses("bin " + bin, INDEX, post, () -> post.bin(bin, 0));
            check.refuses("bin " + bin + ", what 5", INDEX, post, () -> post.bin(bin, 5));
        }
        for (int what : new int[] {-1, 5, LEAST, GREATEST}) {
            check.refuses("what " + what, INDEX, post, () -> post.bin(0, what));
        }
        check.rows("the last one", new int[] {post.bin(1, 0), post.bin(1, 4)}, 8, 0);
    }
}
