/** 'What it is' and 'Terms' up to the hour: tides, bins, the drowned, letters. SentencesTest runs it. */
final class TermsSentences extends Scene {
    private TermsSentences() {
    }

    @Sentence(in = "What it is", words = {"A sorting office for letters to the drowned."})
    static void aLetterIsSortedAndGoesDown(Check check) {
        CountedPost post = flood();
        post.addDrowned(0, 0, 1);
        post.bring(0, 1, 60);
        check.rows("fates", fates(post, 0, 4), IN_BIN, IN_BIN, IN_BIN, DOWN);
    }

    @Sentence(in = "What it is", words = {
        "An object is used for at most 512 calls after it has been made; what later calls answer is free."})
    static void the512thCallIsAnsweredAsTheFirst(Check check) {
        CountedPost post = new CountedPost();
        for (int call = 1; call < CountedPost.MOST_CALLS; call++) {
            post.pass(200);
        }
        check.same("the hour behind 511 times 200 hours", post.count(0), 511 * 200);
        CountedPost last = new CountedPost();
        for (int call = 1; call < CountedPost.MOST_CALLS; call++) {
            last.pass(200);
        }
        check.same("the 512th pass(200)", last.pass(200), 0);
    }

    @Sentence(in = "Terms", words = {"Tides are its hours: letters are sorted into bins at the quay, which the water "
            + "covers and leaves; barnacles grow on their seals, are scraped off, or break them; what the water has "
            + "held long enough goes down, and some of the drowned write back, when the water is low."})
    static void oneTideFromItsBeginningToItsEnd(Check check) {
        CountedPost post = new CountedPost();
        post.addBin(30, 5);
        post.addDrowned(40, 1, 3);
        post.addDrowned(99, 0, 1);
        post.bring(0, 3, 20);
        post.bring(0, 9, 5);
        post.bring(1, 1, 60);
        post.pass(2);
        check.rows("sorted", column(post, STATE_OF), IN_BIN, IN_BIN, IN_BIN);
        post.pass(1);
        check.rows("barnacles at 35, over the bin", column(post, GROWTH), 2, 4, 1);
        check.rows("not held at 35, under 40", column(post, HELD), 0, 0, 0);
        post.pass(1);
        check.rows("a seal is broken at 55", column(post, STATE_OF), IN_BIN, LOST, IN_BIN);
        check.same("held till 90", post.pass(2), 1);
        check.rows("an answer at 90", letterRow(post, 3), 0, 3, 20, ON_ITS_WAY, 0, -1, 0, 3, 0);
        post.pass(4);
        check.rows("it waits at 45", letterRow(post, 3), 0, 3, 20, ON_ITS_WAY, 0, -1, 0, 0, 0);
        check.same("barnacles of eight hours", post.letter(2, GROWTH), 8);
        post.pass(1);
        check.rows("it is here at 25", letterRow(post, 3), 0, 3, 20, HERE, 0, -1, 0, 0, 0);
        check.same("scraped at 25", post.letter(2, GROWTH), 6);
        post.pass(1);
        check.same("scraped at 12", post.letter(2, GROWTH), 4);
        check.same("one hour has gone by for each height", post.count(0), 12);
    }

    @Sentence(in = "Terms", words = {"All numbers are whole, and / is cut towards 0."})
    static void aThirdOfTheWeightIsCutTowards0(Check check) {
        CountedPost post = flood();
        post.addDrowned(99, 0, 1);
        for (int weight = 1; weight <= 9; weight++) {
            post.bring(0, weight, 60);
        }
        post.pass(2);
        check.rows("barnacles of one hour by weight", column(post, GROWTH), 1, 1, 2, 2, 2, 3, 3, 3, 4);
    }

    @Sentence(in = "Terms", words = {"Time is told in hours, from 0."})
    static void timeBeginsWith0(Check check) {
        CountedPost post = tides(7, 8);
        check.same("the first hour", post.count(0), 0);
        check.same("the tide of the first hour", post.tide(0), 7);
        post.pass(1);
        check.same("the second hour", post.count(0), 1);
    }

    @Sentence(in = "Terms", words = {"Heights are 0 to 99."})
    static void heightsAre0To99(Check check) {
        CountedPost post = tides(0, 99);
        check.rows("tides", tideRow(post, 2), 0, 99);
        check.same("bin at 0", post.bin(post.addBin(0, 1), 0), 0);
        check.same("bin at 99", post.bin(post.addBin(99, 1), 0), 99);
        check.same("drowned at 0", post.drowned(post.addDrowned(0, 0, 1), 0), 0);
        check.same("drowned at 99", post.drowned(post.addDrowned(99, 0, 1), 0), 99);
        for (int height : new int[] {-1, 100, LEAST, GREATEST}) {
            check.refuses("beginTides " + height, ARGUMENT, post, () -> post.beginTides(height));
            check.refuses("addTide " + height, ARGUMENT, post, () -> post.addTide(height));
            check.refuses("addBin " + height, ARGUMENT, post, () -> post.addBin(height, 1));
            check.refuses("addDrowned " + height, ARGUMENT, post, () -> post.addDrowned(height, 0, 1));
        }
    }

    @Sentence(in = "Terms", words = {"A table has 2 to 30 heights, one for each hour, again and again:"})
    static void tablesOf2AndOf30HeightsGoRound(Check check) {
        CountedPost two = tides(9, 8);
        check.rows("two heights", tideRow(two, 5), 9, 8, 9, 8, 9);
        CountedPost full = still(0);
        for (int height = 1; height < 30; height++) {
            full.addTide(height);
        }
        check.same("heights", full.count(10), 30);
        full.addBin(28, 1);
        for (int hour = 0; hour < 65; hour++) {
            check.same("tide of the hour " + hour, full.tide(hour), hour % 30);
            check.same("only 29 is over 28, hour " + hour, full.bin(0, 3), hour % 30 == 29 ? 1 : 0);
            full.pass(1);
        }
    }

    @Sentence(in = "Terms", words = {
        "the hour h has the height with the number h by the remainder of how many there are."})
    static void theRemainderTellsTheHeight(Check check) {
        CountedPost post = tides(10, 11, 12, 13, 14, 15, 16);
        check.same("the last of the first round", post.tide(6), 16);
        check.same("the first of the second round", post.tide(7), 10);
        check.same("the greatest hour", post.tide(GREATEST), 10 + GREATEST % 7);
        post.addBin(15, 1);
        post.pass(6);
        check.same("under water at 16", post.bin(0, 3), 1);
        post.pass(1);
        check.same("not at 10", post.bin(0, 3), 0);
        post.pass(1);
        post.addTide(17);
        check.same("the hour 8 of 8 heights has the first one", post.tide(8), 10);
        check.same("the hour 7 of 8 heights has the last one", post.tide(7), 17);
        post.addTide(18);
        check.same("the hour 8 of 9 heights has the last one", post.tide(8), 18);
        check.same("the bin is under it now", post.bin(0, 3), 1);
    }

    @Sentence(in = "Terms", words = {"(At first there are 12: 10, 20, 35, 55, 75, 90, 95, 85, 65, 45, 25, 12.)"})
    static void atFirstThereAre12Heights(Check check) {
        CountedPost post = new CountedPost();
        check.same("heights", post.count(10), 12);
        check.rows("tides", tideRow(post, 13), 10, 20, 35, 55, 75, 90, 95, 85, 65, 45, 25, 12, 10);
    }

    @Sentence(in = "Terms", words = {"There are at most 10, numbered from 0 in the order of their creation;"})
    static void binsAreAtMost10(Check check) {
        CountedPost post = new CountedPost();
        for (int bin = 0; bin < 10; bin++) {
            check.same("number", post.addBin(90 - bin, 1 + bin), bin);
        }
        for (int bin = 0; bin < 10; bin++) {
            check.rows("bin " + bin, binRow(post, bin), 90 - bin, 1 + bin, 0, 0, 0);
        }
        check.refuses("the 11th", STATE, post, () -> post.addBin(1, 1));
        check.same("bins", post.count(1), 10);
    }

    @Sentence(in = "Terms", words = {"a bin has a height and a room, 1 to 20."})
    static void aBinHasRoomFor1To20(Check check) {
        CountedPost post = still(0);
        post.addBin(50, 1);
        post.addBin(70, 20);
        post.addDrowned(50, 0, 1);
        post.setCrew(0, 9);
        bringMany(post, 22, 0, 1, 60);
        post.pass(3);
        check.rows("letters in a room of 1", binRow(post, 0), 50, 1, 1, 0, 0);
        check.rows("letters in a room of 20", binRow(post, 1), 70, 20, 20, 0, 0);
        check.same("the 22nd stays in the office", post.letter(21, STATE_OF), OFFICE);
        check.refuses("a room of 0", ARGUMENT, post, () -> post.addBin(50, 0));
        check.refuses("a room of 21", ARGUMENT, post, () -> post.addBin(50, 21));
    }

    @Sentence(in = "Terms", words = {
        "It is under water in an hour, if the height of the tide is greater than its own."})
    static void aBinIsUnderAGreaterTideAlone(Check check) {
        CountedPost post = tides(49, 50, 51, 0, 1, 98, 99);
        post.addBin(50, 1);
        post.addBin(0, 1);
        post.addBin(98, 1);
        post.addBin(99, 1);
        int[][] due = {{0, 1, 0, 0}, {0, 1, 0, 0}, {1, 1, 0, 0}, {0, 0, 0, 0}, {0, 1, 0, 0}, {1, 1, 0, 0}, {1, 1, 1, 0}};
        for (int hour = 0; hour < due.length; hour++) {
            int[] under = {post.bin(0, 3), post.bin(1, 3), post.bin(2, 3), post.bin(3, 3)};
            check.rows("bins at 50, 0, 98, 99 at the tide " + post.tide(hour), under, due[hour]);
            post.pass(1);
        }
    }

    @Sentence(in = "Terms", words = {"There are at most 16, numbered likewise."})
    static void theDrownedAreAtMost16(Check check) {
        CountedPost post = new CountedPost();
        for (int one = 0; one < 16; one++) {
            check.same("number", post.addDrowned(99 - one, one % 6, 60 - one), one);
        }
        for (int one = 0; one < 16; one++) {
            check.rows("drowned " + one, drownedRow(post, one), 99 - one, one % 6, 60 - one, 0, 0);
        }
        check.refuses("the 17th", STATE, post, () -> post.addDrowned(1, 1, 1));
        check.same("drowned", post.count(2), 16);
    }

    @Sentence(in = "Terms", words = {"Each lies at a height, answers each nth letter, n being 0 to 5 (0: never),"})
    static void eachNthLetterIsAnswered(Check check) {
        int[][] answered = {{}, {0, 1, 2, 3, 4, 5, 6, 7, 8, 9}, {1, 3, 5, 7, 9}, {2, 5, 8}, {3, 7}, {4, 9}};
        for (int n = 0; n <= 5; n++) {
            CountedPost post = flood();
            post.addDrowned(17, n, 60);
            bringMany(post, 10, 0, 1, 60);
            post.pass(5);
            check.rows("drowned with n " + n, drownedRow(post, 0), 17, n, 60, 10, answered[n].length);
            check.same("letters with n " + n, post.count(3), 10 + answered[n].length);
            for (int i = 0; i < answered[n].length; i++) {
                check.same("answered with n " + n, post.letter(10 + i, ANSWERED), answered[n][i]);
            }
        }
    }

    @Sentence(in = "Terms", words = {"and takes a lag for an answer, 1 to 60 hours."})
    static void theLagIs1To60Hours(Check check) {
        for (int lag : new int[] {1, 2, 59, 60}) {
            CountedPost post = still(30);
            post.addBin(29, 1);
            post.addDrowned(30, 1, lag);
            post.bring(0, 1, 60);
            post.pass(4);
            check.rows("written", letterRow(post, 1), 0, 1, 60, ON_ITS_WAY, 0, -1, 0, lag, 0);
            int waited = 0;
            while (post.letter(1, STATE_OF) != HERE && waited < 100) {
                check.same("hours before it", post.letter(1, BEFORE), lag - waited);
                post.pass(1);
                waited++;
            }
            check.same("hours till it is here", waited, lag);
        }
    }

    @Sentence(in = "Terms", words = {
        "There are at most 150, numbered in the order in which they were brought, answers too."})
    static void lettersAreAtMost150WithTheAnswers(Check check) {
        CountedPost post = flood();
        post.addDrowned(0, 1, 60);
        bringMany(post, 2, 0, 1, 60);
        post.pass(4);
        check.same("letters and their answers", post.count(3), 4);
        for (int letter = 4; letter < 150; letter++) {
            check.same("number behind the answers", post.bring(0, 1, 60), letter);
        }
        check.refuses("the 151st", STATE, post, () -> post.bring(0, 1, 60));
        post.pass(10);
        check.same("letters", post.count(3), 150);
    }

    @Sentence(in = "Terms", words = {"A letter is to one of the drowned (an answer is from one), has a weight, 1 to 9, "
            + "and a seal, 1 to 60; barnacles, 0 at first;"})
    static void aLetterHasAWeightASealAndNoBarnaclesAtFirst(Check check) {
        CountedPost post = flood();
        post.addDrowned(1, 0, 1);
        post.addDrowned(2, 1, 5);
        post.bring(1, 9, 60);
        post.bring(0, 1, 1);
        check.rows("the greatest", letterRow(post, 0), 1, 9, 60, OFFICE, 0, -1, 0, 0, -1);
        check.rows("the least", letterRow(post, 1), 0, 1, 1, OFFICE, 0, -1, 0, 0, -1);
        post.pass(4);
        check.rows("an answer from 1", letterRow(post, 2), 1, 9, 60, ON_ITS_WAY, 0, -1, 0, 5, 0);
    }

    @Sentence(in = "Terms", words = {"and a state: 0 in the office, 1 in a bin, 2 gone down, 3 lost, "
            + "4 an answer on its way, 5 an answer that is here."})
    static void aLetterGoesThroughItsStates(Check check) {
        CountedPost post = tides(99, 99, 99, 99, 0);
        post.addBin(0, 2);
        post.addDrowned(0, 1, 1);
        post.bring(0, 1, 4);
        post.bring(0, 1, 3);
        post.bring(0, 1, 60);
        check.rows("at first", column(post, STATE_OF), 0, 0, 0);
        post.pass(1);
        check.rows("hour 1", column(post, STATE_OF), 1, 1, 0);
        post.pass(2);
        check.rows("hour 3", column(post, STATE_OF), 1, 1, 0);
        post.pass(1);
        check.rows("hour 4", column(post, STATE_OF), 2, 3, 1, 4);
        post.pass(1);
        check.rows("hour 5", column(post, STATE_OF), 2, 3, 1, 5);
    }

    @Sentence(in = "Terms", words = {"It is known of a letter in a bin for how many hours one behind the other it has "
            + "been held: under water, and the tide at least as high as its drowned lies"})
    static void heldUnderWaterAndAtATideAsHighAsItsDrowned(Check check) {
        CountedPost post = still(50);
        post.addBin(49, 5);
        post.addBin(50, 5);
        post.addDrowned(50, 0, 1);
        post.addDrowned(49, 0, 1);
        post.addDrowned(51, 0, 1);
        post.setCrew(0, 9);
        post.bring(0, 1, 60);
        post.bring(1, 1, 60);
        post.bring(2, 1, 60);
        post.pass(1);
        check.rows("bins", column(post, BIN), 1, 0, 1);
        check.rows("held in the hour of sorting", column(post, HELD), 0, 0, 0);
        post.pass(2);
        check.rows("held: in a bin as high as the tide, under water, in a bin as high as the tide",
                column(post, HELD), 0, 2, 0);
        CountedPost deep = still(50);
        deep.addBin(49, 5);
        deep.addDrowned(50, 0, 1);
        deep.addDrowned(51, 0, 1);
        deep.bring(0, 1, 60);
        deep.bring(1, 1, 60);
        deep.pass(2);
        check.rows("held one hour, with the drowned at the tide and over it", column(deep, HELD), 1, 0);
        deep.pass(1);
        check.rows("held two hours", column(deep, HELD), 2, 0);
        check.same("gone down", deep.pass(1), 1);
    }

    @Sentence(in = "Terms", words = {"(0 behind an hour in which it was not)."})
    static void heldForNoHourBehindAnHourInWhichItWasNot(Check check) {
        CountedPost low = tides(0, 60, 60, 49, 60, 60, 60);
        low.addBin(40, 5);
        low.addDrowned(50, 0, 1);
        low.bring(0, 1, 60);
        int[] lowDue = {0, 1, 2, 0, 1, 2, 0};
        CountedPost dry = tides(0, 60, 60, 40, 60, 60, 60);
        dry.addBin(40, 5);
        dry.addDrowned(30, 0, 1);
        dry.bring(0, 1, 60);
        for (int hour = 0; hour < lowDue.length; hour++) {
            low.pass(1);
            dry.pass(1);
            check.same("held, tide under the drowned, hour " + hour, low.letter(0, HELD), lowDue[hour]);
            check.same("held, bin dry, hour " + hour, dry.letter(0, HELD), lowDue[hour]);
        }
        check.same("gone down in the third hour of the second flood", low.letter(0, STATE_OF), DOWN);
        check.same("gone down in the third hour of the second flood", dry.letter(0, STATE_OF), DOWN);
    }
}
