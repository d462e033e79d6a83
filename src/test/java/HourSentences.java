import java.util.Arrays;

/** 'Terms', the five steps of an hour. SentencesTest runs it. */
final class HourSentences extends Scene {
    private HourSentences() {
    }

    @Sentence(in = "Terms", words = {
        "An hour goes like this, with the tide of the hour that is now; behind it the hour is 1 greater:"})
    static void anHourGoesWithTheTideThatIsNow(Check check) {
        CountedPost post = tides(0, 99, 0);
        post.addBin(50, 1);
        post.addDrowned(0, 0, 1);
        post.setCrew(0, 1);
        post.bring(0, 1, 60);
        post.pass(1);
        check.same("barnacles behind the hour 0 at the tide 0", post.letter(0, GROWTH), 0);
        check.same("the hour", post.count(0), 1);
        check.same("under water now", post.bin(0, 3), 1);
        post.pass(1);
        check.same("barnacles behind the hour 1 at the tide 99", post.letter(0, GROWTH), 1);
        check.same("the hour", post.count(0), 2);
        check.same("not under water now", post.bin(0, 3), 0);
        post.pass(1);
        check.same("barnacles behind the hour 2 at the tide 0", post.letter(0, GROWTH), 1);
        post.beginTides(99);
        post.pass(1);
        check.same("barnacles behind an hour with a new table", post.letter(0, GROWTH), 2);
    }

    // ---- 1. Water

    @Sentence(in = "Terms", words = {"1. Water. For each letter in a bin under water, in ascending order of numbers:"})
    static void waterComesToLettersInBinsUnderItByTheirNumbers(Check check) {
        CountedPost post = still(99);
        post.addBin(99, 2);
        post.addBin(98, 20);
        post.addDrowned(99, 1, 1);
        post.setCrew(0, 9);
        // The heavier letters are sorted first, but the smaller numbers go down first.
        post.bring(0, 1, 60);
        post.bring(0, 2, 60);
        post.bring(0, 9, 60);
        post.bring(0, 8, 60);
        post.bring(0, 3, 60);
        post.pass(1);
        check.rows("bins", column(post, BIN), 1, 1, 0, 0, 1);
        check.same("three go down", post.pass(3), 3);
        check.rows("barnacles, none in the dry bin", column(post, GROWTH), 3, 3, 0, 0, 6, 0, 0, 0);
        check.rows("answers by the numbers of the letters", column(post, ANSWERED), -1, -1, -1, -1, -1, 0, 1, 4);
        CountedPost office = flood();
        office.addDrowned(0, 0, 1);
        office.setCrew(0, 0);
        office.bring(0, 9, 1);
        office.pass(5);
        check.rows("the office is never under water", letterRow(office, 0), 0, 9, 1, OFFICE, 0, -1, 0, 0, -1);
    }

    @Sentence(in = "Terms", words = {"its barnacles are 1 and weight / 3 more (both together)."})
    static void eachHourUnderWaterAdds1AndAThirdOfTheWeight(Check check) {
        CountedPost post = still(99);
        post.addBin(98, 20);
        post.addDrowned(99, 0, 1);
        post.setCrew(0, 9);
        for (int weight = 1; weight <= 9; weight++) {
            post.bring(0, weight, 60);
        }
        post.pass(2);
        check.rows("one hour", column(post, GROWTH), 1, 1, 2, 2, 2, 3, 3, 3, 4);
        post.pass(1);
        check.rows("two hours", column(post, GROWTH), 2, 2, 4, 4, 4, 6, 6, 6, 8);
        post.pass(1);
        check.rows("three hours", column(post, GROWTH), 3, 3, 6, 6, 6, 9, 9, 9, 12);
    }

    @Sentence(in = "Terms", words = {"If they are at least as many as its seal is strong then, it is lost."})
    static void aSealBreaksByAsManyBarnacles(Check check) {
        CountedPost post = flood();
        post.addDrowned(99, 0, 1);
        int[][] weightsAndSeals = {{9, 3}, {9, 4}, {9, 5}, {1, 1}, {1, 2}, {3, 2}, {3, 3}};
        for (int[] letter : weightsAndSeals) {
            post.bring(0, letter[0], letter[1]);
        }
        post.pass(1);
        check.rows("a seal of 1 holds in the dry", column(post, STATE_OF), 1, 1, 1, 1, 1, 1, 1);
        post.pass(1);
        check.rows("one hour: more, as many, one less", column(post, STATE_OF), 3, 3, 1, 3, 1, 3, 1);
        check.rows("their barnacles stay on the lost", column(post, GROWTH), 4, 4, 4, 1, 1, 2, 2);
        check.same("letters in the bin", post.bin(0, 2), 3);
        post.pass(1);
        check.rows("two hours", column(post, STATE_OF), 3, 3, 3, 3, 3, 3, 3);

        CountedPost strong = still(50);
        strong.addBin(49, 2);
        strong.addDrowned(51, 0, 1);
        strong.bring(0, 1, 60);
        strong.bring(0, 9, 60);
        check.same("59 hours under water and none held", strong.pass(1 + 59), 0);
        check.rows("a seal of 60 under 59 barnacles, and under 60", column(strong, STATE_OF), IN_BIN, LOST);
        check.rows("barnacles", column(strong, GROWTH), 59, 60);
        strong.pass(1);
        check.same("a seal of 60 under 60 barnacles", strong.letter(0, STATE_OF), LOST);
        check.same("letters in the bin", strong.bin(0, 2), 0);
        CountedPost heavy = still(50);
        heavy.addBin(49, 1);
        heavy.addDrowned(51, 0, 1);
        heavy.bring(0, 9, 60);
        heavy.pass(15);
        check.rows("56 of 60", letterRow(heavy, 0), 0, 9, 60, IN_BIN, 56, 0, 0, 0, -1);
        heavy.pass(1);
        check.rows("60 of 60", letterRow(heavy, 0), 0, 9, 60, LOST, 60, -1, 0, 0, -1);
    }

    @Sentence(in = "Terms", words = {
        "Otherwise, if the tide is at least as high as its drowned lies, it is held for one hour more;"})
    static void heldForOneHourMoreAtATideAsHighAsItsDrowned(Check check) {
        CountedPost post = tides(70, 70, 70, 69, 70, 71);
        post.addBin(60, 9);
        post.addDrowned(70, 0, 1);
        post.addDrowned(71, 0, 1);
        post.addDrowned(0, 0, 1);
        for (int one = 0; one < 3; one++) {
            post.bring(one, 1, 60);
        }
        post.pass(2);
        check.rows("70 over drowned at 70, 71, 0", column(post, HELD), 1, 0, 1);
        post.pass(1);
        check.rows("70", column(post, HELD), 2, 0, 2);
        check.same("69: only that to the drowned at 0 goes down", post.pass(1), 1);
        check.rows("69", column(post, HELD), 0, 0, 0);
        post.pass(1);
        check.rows("70", column(post, HELD), 1, 0, 0);
        post.pass(1);
        check.rows("71", column(post, HELD), 2, 1, 0);
    }

    @Sentence(in = "Terms", words = {"with 3 hours it goes down."})
    static void with3HoursItGoesDown(Check check) {
        CountedPost post = flood();
        post.addDrowned(99, 0, 1);
        post.bring(0, 2, 60);
        check.same("sorted and 2 hours", post.pass(3), 0);
        check.rows("2 hours", letterRow(post, 0), 0, 2, 60, IN_BIN, 2, 0, 2, 0, -1);
        check.same("the third hour", post.pass(1), 1);
        check.rows("3 hours", letterRow(post, 0), 0, 2, 60, DOWN, 3, -1, 0, 0, -1);
        check.rows("the bin", binRow(post, 0), 0, 20, 0, 1, 0);
        check.same("it goes down once", post.pass(50), 0);
        check.same("got", post.drowned(0, 3), 1);
    }

    @Sentence(in = "Terms", words = {"If they are at least as many as its seal is strong then, it is lost. Otherwise,"})
    static void aSealThatBreaksInTheHourOfGoingDownIsLost(Check check) {
        CountedPost post = flood();
        post.addDrowned(99, 1, 1);
        post.bring(0, 1, 3);
        post.bring(0, 1, 4);
        post.bring(0, 9, 12);
        post.bring(0, 9, 13);
        post.pass(3);
        check.rows("held for 2 hours", column(post, HELD), 2, 2, 2, 2);
        check.same("the seals of 4 and 13 go down", post.pass(1), 2);
        check.rows("states", column(post, STATE_OF), LOST, DOWN, LOST, DOWN, ON_ITS_WAY, ON_ITS_WAY);
        check.rows("answers only to what went down", column(post, ANSWERED), -1, -1, -1, -1, 1, 3);
        check.rows("the lost are not got", drownedRow(post, 0), 99, 1, 1, 2, 2);
        check.rows("counts", Arrays.copyOfRange(counts(post), 4, 10), 0, 0, 2, 2, 2, 0);
    }

    // ---- 2. Answers

    @Sentence(in = "Terms", words = {
        "2. Answers. Whoever has got letters in this hour (in the order in which these went down):"})
    static void answersOfOneHourComeInTheOrderOfTheirLetters(Check check) {
        CountedPost post = flood();
        post.addDrowned(50, 1, 9);
        post.addDrowned(10, 1, 8);
        post.addDrowned(90, 1, 7);
        for (int one : new int[] {2, 0, 1, 0, 2}) {
            post.bring(one, 1, 60);
        }
        check.same("five in one hour", post.pass(4), 5);
        check.rows("answered", column(post, ANSWERED), -1, -1, -1, -1, -1, 0, 1, 2, 3, 4);
        check.rows("from whom", column(post, TO), 2, 0, 1, 0, 2, 2, 0, 1, 0, 2);
        CountedPost later = flood();
        later.addDrowned(50, 1, 9);
        later.setCrew(0, 1);
        later.bring(0, 1, 60);
        later.bring(0, 9, 60);
        later.pass(5);
        check.rows("of two hours the first one first", column(later, ANSWERED), -1, -1, 1, 0);
    }

    @Sentence(in = "Terms", words = {
        "for each of them it is counted how many letters have gone down to this one, this one with them;"})
    static void eachLetterIsCountedWhenItGoesDown(Check check) {
        CountedPost post = flood();
        post.addDrowned(50, 3, 60);
        post.addDrowned(50, 2, 60);
        for (int one : new int[] {0, 1, 0, 0, 1, 0, 1, 1}) {
            post.bring(one, 1, 60);
        }
        post.pass(4);
        check.rows("got at once", new int[] {post.drowned(0, 3), post.drowned(1, 3)}, 4, 4);
        check.rows("the third to 0, the second and the fourth to 1", column(post, ANSWERED),
                -1, -1, -1, -1, -1, -1, -1, -1, 3, 4, 7);
        bringMany(post, 2, 0, 1, 60);
        post.pass(4);
        check.same("the sixth to 0, in a later hour", post.letter(13, ANSWERED), 12);
        check.rows("drowned 0", drownedRow(post, 0), 50, 3, 60, 6, 2);
    }

    @Sentence(in = "Terms", words = {"if n is not 0, and divides the number, an answer is on its way,"})
    static void nDividesTheNumberOrNothingIsWritten(Check check) {
        CountedPost post = flood();
        for (int n = 0; n <= 5; n++) {
            post.addDrowned(n, n, 60);
        }
        int[] written = {0, 0, 0, 0, 0, 0};
        for (int number = 1; number <= 6; number++) {
            for (int one = 0; one <= 5; one++) {
                post.bring(one, 1, 60);
            }
            post.pass(4);
            for (int n = 0; n <= 5; n++) {
                written[n] += n != 0 && number % n == 0 ? 1 : 0;
                check.same("written with n " + n + " behind " + number, post.drowned(n, 4), written[n]);
                check.same("got with n " + n, post.drowned(n, 3), number);
            }
        }
    }

    @Sentence(in = "Terms", words = {"if there are fewer than 150 letters:"})
    static void the150thIsWrittenAndThe151stIsNot(Check check) {
        CountedPost post = almostFull(149);
        check.same("two go down", post.pass(4), 2);
        check.same("letters", post.count(3), 150);
        check.rows("the 150th", letterRow(post, 149), 0, 9, 60, ON_ITS_WAY, 0, -1, 0, 5, 0);
        check.rows("who got the first one", drownedRow(post, 0), 0, 1, 5, 1, 1);
        check.rows("who got the second one", drownedRow(post, 1), 0, 1, 6, 1, 0);
        CountedPost full = almostFull(150);
        check.same("two go down, full", full.pass(4), 2);
        check.same("letters, full", full.count(3), 150);
        check.rows("who got the first one, full", drownedRow(full, 0), 0, 1, 5, 1, 0);
        check.same("none on its way", full.count(8), 0);
        CountedPost room = almostFull(148);
        room.pass(4);
        check.rows("both answers with 148", new int[] {room.count(3), room.count(8)}, 150, 2);
        check.same("the 150th answers the second one", room.letter(149, ANSWERED), 1);
    }

    /** So many letters, of which two, to two of the drowned who answer each letter, are sorted in the first hour. */
    private static CountedPost almostFull(int letters) {
        CountedPost post = flood();
        post.addDrowned(0, 1, 5);
        post.addDrowned(0, 1, 6);
        post.addDrowned(0, 0, 1);
        post.setCrew(0, 2);
        post.bring(0, 9, 60);
        post.bring(1, 9, 60);
        bringMany(post, letters - 2, 2, 1, 60);
        return post;
    }

    @Sentence(in = "Terms", words = {
        "of the weight of the letter, with its seal, and as many hours before it as the lag tells."})
    static void anAnswerHasTheWeightAndTheSealOfItsLetter(Check check) {
        CountedPost post = flood();
        post.addDrowned(0, 1, 1);
        post.addDrowned(0, 1, 60);
        post.bring(0, 9, 13);
        post.bring(1, 1, 60);
        post.pass(4);
        check.rows("lag 1", letterRow(post, 2), 0, 9, 13, ON_ITS_WAY, 0, -1, 0, 1, 0);
        check.rows("lag 60, and no barnacles", letterRow(post, 3), 1, 1, 60, ON_ITS_WAY, 0, -1, 0, 60, 1);
    }

    // ---- 3. On the way

    @Sentence(in = "Terms", words = {
        "3. On the way. An answer (that was not written in this hour) has one hour less before it, if it has any;"})
    static void anAnswerHasOneHourLessFromTheNextHourOn(Check check) {
        CountedPost post = still(30);
        post.addBin(29, 9);
        post.addDrowned(30, 1, 1);
        post.addDrowned(30, 1, 3);
        post.bring(0, 1, 60);
        post.bring(1, 1, 60);
        post.pass(4);
        check.rows("not in the hour of writing, though the tide is low", column(post, BEFORE), 0, 0, 1, 3);
        check.rows("states", column(post, STATE_OF), DOWN, DOWN, ON_ITS_WAY, ON_ITS_WAY);
        post.beginTides(31);
        post.pass(1);
        check.rows("one hour less", column(post, BEFORE), 0, 0, 0, 2);
        post.pass(1);
        check.rows("none has less than 0", column(post, BEFORE), 0, 0, 0, 1);
        post.pass(9);
        check.rows("none left", column(post, BEFORE), 0, 0, 0, 0);
        check.rows("states", column(post, STATE_OF), DOWN, DOWN, ON_ITS_WAY, ON_ITS_WAY);
    }

    @Sentence(in = "Terms", words = {"if it has none (any more), and the tide is at most 30, it is here."})
    static void anAnswerIsHereAtATideOfAtMost30(Check check) {
        int[] tides = {0, 29, 30, 31, 99};
        int[] due = {HERE, HERE, HERE, ON_ITS_WAY, ON_ITS_WAY};
        for (int i = 0; i < tides.length; i++) {
            CountedPost post = flood();
            post.addDrowned(0, 1, 2);
            post.bring(0, 1, 60);
            post.pass(5);
            check.same("hours before it", post.letter(1, BEFORE), 1);
            post.beginTides(tides[i]);
            post.pass(1);
            check.same("the lag runs out at the tide " + tides[i], post.letter(1, STATE_OF), due[i]);
            check.same("hours before it", post.letter(1, BEFORE), 0);
            post.pass(2);
            check.same("it waits for the tide", post.letter(1, STATE_OF), due[i]);
            post.beginTides(30);
            post.pass(1);
            check.same("it is here at 30", post.letter(1, STATE_OF), HERE);
            post.beginTides(99);
            post.pass(9);
            check.rows("and stays", letterRow(post, 1), 0, 1, 60, HERE, 0, -1, 0, 0, 0);
        }
        CountedPost early = flood();
        early.addDrowned(0, 1, 3);
        early.bring(0, 1, 60);
        early.pass(4);
        early.beginTides(0);
        early.pass(2);
        check.rows("not with an hour before it", letterRow(early, 1), 0, 1, 60, ON_ITS_WAY, 0, -1, 0, 1, 0);
        early.pass(1);
        check.same("but with none", early.letter(1, STATE_OF), HERE);
    }

    // ---- 4. Scraping

    /** Letters that were under water for so many hours, in one bin that is dry now; nobody works. */
    private static CountedPost overgrown(int hours, int... weights) {
        CountedPost post = still(0);
        post.addBin(50, 20);
        post.addDrowned(99, 0, 1);
        post.setCrew(0, 9);
        for (int weight : weights) {
            post.bring(0, weight, 60);
        }
        post.pass(3);
        post.beginTides(60);
        post.pass(hours);
        post.beginTides(50);
        post.setCrew(0, 0);
        return post;
    }

    @Sentence(in = "Terms", words = {
        "4. Scraping. In bins that are not under water the scrapers take letters with barnacles:"})
    static void scrapersWorkInDryBinsAlone(Check check) {
        CountedPost post = still(60);
        post.addBin(50, 1);
        post.addBin(59, 1);
        post.addDrowned(99, 0, 1);
        post.setCrew(0, 9);
        post.bring(0, 1, 60);
        post.bring(0, 1, 60);
        post.pass(4);
        check.rows("bins", column(post, BIN), 1, 0);
        post.setCrew(9, 9);
        post.pass(1);
        check.rows("both under water", column(post, GROWTH), 4, 4);
        post.beginTides(59);
        post.pass(1);
        check.rows("a tide as high as the bin 1", column(post, GROWTH), 2, 5);
        post.beginTides(51);
        post.pass(1);
        check.rows("a tide higher than the bin 0", column(post, GROWTH), 0, 6);
        post.beginTides(50);
        post.pass(1);
        check.rows("a tide as high as the bin 0", column(post, GROWTH), 0, 4);
        CountedPost out = overgrown(2, 1, 9);
        out.takeOut(1);
        out.setCrew(9, 0);
        out.pass(5);
        check.rows("nobody scrapes in the office", column(out, GROWTH), 0, 8);
        out.setCrew(9, 9);
        out.pass(1);
        check.same("nor in the hour of sorting", out.letter(1, GROWTH), 8);
        out.pass(1);
        check.same("but in the next one", out.letter(1, GROWTH), 6);
        CountedPost lost = flood();
        lost.addDrowned(99, 0, 1);
        lost.bring(0, 9, 4);
        lost.bring(0, 9, 60);
        lost.pass(4);
        lost.setCrew(9, 9);
        lost.beginTides(0);
        lost.pass(3);
        check.rows("nor what is lost or has gone down", column(lost, GROWTH), 4, 12);
    }

    @Sentence(in = "Terms", words = {"with barnacles: the one with the most barnacles first,"})
    static void theMostBarnaclesAreScrapedFirst(Check check) {
        CountedPost post = overgrown(1, 1, 6, 9, 3);
        check.rows("barnacles", column(post, GROWTH), 1, 3, 4, 2);
        post.setCrew(1, 0);
        post.pass(1);
        check.rows("4 first", column(post, GROWTH), 1, 3, 2, 2);
        post.pass(1);
        check.rows("3 then", column(post, GROWTH), 1, 1, 2, 2);
        CountedPost bins = still(60);
        bins.addBin(50, 1);
        bins.addBin(40, 1);
        bins.addDrowned(99, 0, 1);
        bins.setCrew(0, 9);
        bins.bring(0, 1, 60);
        bins.bring(0, 1, 60);
        bins.pass(1);
        bins.beginTides(45);
        bins.pass(1);
        check.rows("bins", column(bins, BIN), 0, 1);
        check.rows("barnacles", column(bins, GROWTH), 0, 1);
        bins.beginTides(60);
        bins.pass(2);
        check.rows("barnacles", column(bins, GROWTH), 2, 3);
        bins.setCrew(1, 0);
        bins.beginTides(40);
        bins.pass(1);
        check.rows("the most of all dry bins", column(bins, GROWTH), 2, 1);
    }

    @Sentence(in = "Terms", words = {"of several the one with the smallest number,"})
    static void ofAsManyBarnaclesTheSmallestNumberIsScraped(Check check) {
        CountedPost post = overgrown(2, 1, 3, 3, 3, 1);
        check.rows("barnacles", column(post, GROWTH), 2, 4, 4, 4, 2);
        post.setCrew(1, 0);
        post.pass(1);
        check.rows("the first of three", column(post, GROWTH), 2, 2, 4, 4, 2);
        post.pass(1);
        check.rows("the second", column(post, GROWTH), 2, 2, 2, 4, 2);
        post.pass(1);
        check.rows("the third", column(post, GROWTH), 2, 2, 2, 2, 2);
        post.pass(1);
        check.rows("the first of all", column(post, GROWTH), 0, 2, 2, 2, 2);
    }

    @Sentence(in = "Terms", words = {"as many letters as there are scrapers"})
    static void asManyLettersAreScrapedAsThereAreScrapers(Check check) {
        for (int scrapers = 0; scrapers <= 9; scrapers++) {
            CountedPost post = overgrown(3, 1, 1, 1, 1, 1, 1, 1, 1, 1, 1);
            post.setCrew(scrapers, 0);
            post.pass(1);
            int[] due = new int[10];
            Arrays.fill(due, 3);
            Arrays.fill(due, 0, scrapers, 1);
            check.rows(scrapers + " scrapers", column(post, GROWTH), due);
        }
        CountedPost two = still(60);
        two.addBin(50, 2);
        two.addBin(51, 2);
        two.addDrowned(99, 0, 1);
        two.setCrew(0, 9);
        bringMany(two, 4, 0, 1, 60);
        two.pass(4);
        two.beginTides(0);
        two.setCrew(3, 0);
        two.pass(1);
        check.rows("so many in all bins together", column(two, GROWTH), 1, 1, 1, 3);
    }

    @Sentence(in = "Terms", words = {"(each letter once in an hour):"})
    static void eachLetterIsScrapedOnceInAnHour(Check check) {
        CountedPost post = overgrown(2, 9);
        post.setCrew(9, 0);
        for (int due : new int[] {6, 4, 2, 0, 0}) {
            post.pass(1);
            check.same("one letter and nine scrapers", post.letter(0, GROWTH), due);
        }
        CountedPost two = overgrown(2, 1, 9);
        two.setCrew(2, 0);
        two.pass(1);
        check.rows("the second scraper takes the next letter", column(two, GROWTH), 0, 6);
    }

    @Sentence(in = "Terms", words = {"it has 2 barnacles less (but not less than 0)."})
    static void aScrapedLetterHas2BarnaclesLess(Check check) {
        CountedPost post = overgrown(1, 1, 3, 6, 9);
        post.setCrew(9, 0);
        check.rows("barnacles", column(post, GROWTH), 1, 2, 3, 4);
        post.pass(1);
        check.rows("1 becomes 0, 2 becomes 0, 3 becomes 1", column(post, GROWTH), 0, 0, 1, 2);
        post.pass(1);
        check.rows("none becomes less than 0", column(post, GROWTH), 0, 0, 0, 0);
        CountedPost none = overgrown(1, 1, 1);
        none.setCrew(1, 0);
        none.pass(2);
        check.rows("a letter without barnacles is passed by", column(none, GROWTH), 0, 0);
    }

    // ---- 5. Sorting

    @Sentence(in = "Terms", words = {"5. Sorting. Letters in the office, as many as there are sorters,"})
    static void asManyLettersAreSortedAsThereAreSorters(Check check) {
        for (int sorters = 0; sorters <= 9; sorters++) {
            CountedPost post = still(0);
            post.addBin(0, 20);
            post.addDrowned(0, 0, 1);
            post.setCrew(0, sorters);
            bringMany(post, 10, 0, 1, 60);
            post.pass(1);
            check.same("sorted by " + sorters, post.bin(0, 2), sorters);
            check.same("left by " + sorters, post.count(4), 10 - sorters);
        }
        CountedPost answer = flood();
        answer.addDrowned(0, 1, 1);
        answer.bring(0, 9, 60);
        answer.pass(4);
        answer.beginTides(0);
        answer.pass(3);
        check.rows("an answer that is here is not in the office", column(answer, BIN), -1, -1);
    }

    @Sentence(in = "Terms", words = {"in descending order of weight,"})
    static void theHeaviestAreSortedFirst(Check check) {
        CountedPost post = still(0);
        post.addBin(0, 20);
        post.addDrowned(0, 0, 1);
        post.setCrew(0, 1);
        int[] weights = {4, 1, 9, 2, 8};
        for (int weight : weights) {
            post.bring(0, weight, 60);
        }
        int[][] due = {{0, 0, 1, 0, 0}, {0, 0, 1, 0, 1}, {1, 0, 1, 0, 1}, {1, 0, 1, 1, 1}, {1, 1, 1, 1, 1}};
        for (int hour = 0; hour < due.length; hour++) {
            post.pass(1);
            check.rows("states behind the hour " + hour, column(post, STATE_OF), due[hour]);
        }
    }

    @Sentence(in = "Terms", words = {"of the same weight in ascending order of their numbers:"})
    static void ofTheSameWeightTheSmallestNumberIsSortedFirst(Check check) {
        CountedPost post = still(0);
        for (int bin = 0; bin < 5; bin++) {
            post.addBin(10 * bin, 1);
        }
        post.addDrowned(0, 0, 1);
        post.setCrew(0, 9);
        for (int weight : new int[] {3, 5, 3, 5, 3}) {
            post.bring(0, weight, 60);
        }
        post.pass(1);
        check.rows("bins in the order of sorting", column(post, BIN), 2, 0, 3, 1, 4);
        CountedPost back = still(0);
        back.addBin(0, 20);
        back.addDrowned(0, 0, 1);
        bringMany(back, 3, 0, 1, 60);
        back.pass(1);
        back.takeOut(2);
        back.takeOut(0);
        back.setCrew(0, 1);
        back.pass(1);
        check.rows("taken out later, but of a smaller number", column(back, STATE_OF), IN_BIN, IN_BIN, OFFICE);
    }

    @Sentence(in = "Terms", words = {"each is put into the bin with room whose height is nearest to that of its drowned,"})
    static void sortedIntoTheNearestBinWithRoom(Check check) {
        CountedPost post = still(99);
        post.addBin(0, 1);
        post.addBin(58, 1);
        post.addBin(45, 1);
        post.addBin(53, 1);
        post.addBin(99, 1);
        post.addDrowned(50, 0, 1);
        post.setCrew(0, 9);
        bringMany(post, 5, 0, 1, 60);
        post.pass(1);
        check.rows("53, 45, 58, 99, 0, though under water", column(post, BIN), 3, 2, 1, 4, 0);
        CountedPost freed = tides(99);
        freed.addBin(50, 1);
        freed.addDrowned(50, 0, 1);
        bringMany(freed, 2, 0, 1, 60);
        freed.pass(3);
        check.rows("no room for the second one", column(freed, BIN), 0, -1);
        freed.pass(1);
        check.rows("room in the hour in which the first one goes down", column(freed, BIN), -1, 0);
        CountedPost lost = tides(99);
        lost.addBin(50, 1);
        lost.addDrowned(50, 0, 1);
        bringMany(lost, 2, 0, 1, 1);
        lost.pass(2);
        check.rows("room in the hour in which the first one is lost", column(lost, BIN), -1, 0);
        check.rows("states", column(lost, STATE_OF), LOST, IN_BIN);
    }

    @Sentence(in = "Terms", words = {"of several the lowest one,"})
    static void ofBinsAsNearTheLowestOne(Check check) {
        CountedPost post = still(0);
        post.addBin(60, 1);
        post.addBin(40, 1);
        post.addBin(49, 1);
        post.addBin(51, 1);
        post.addDrowned(50, 0, 1);
        post.setCrew(0, 9);
        bringMany(post, 4, 0, 1, 60);
        post.pass(1);
        check.rows("49 before 51, 40 before 60", column(post, BIN), 2, 3, 1, 0);
    }

    @Sentence(in = "Terms", words = {"of these the one with the smallest number;"})
    static void ofBinsAsNearAndAsLowTheSmallestNumber(Check check) {
        CountedPost post = still(0);
        post.addBin(60, 1);
        post.addBin(40, 2);
        post.addBin(60, 1);
        post.addBin(40, 1);
        post.addDrowned(50, 0, 1);
        post.setCrew(0, 9);
        bringMany(post, 5, 0, 1, 60);
        post.pass(1);
        check.rows("twice 40, then 40, then 60 and 60", column(post, BIN), 1, 1, 3, 0, 2);
    }

    @Sentence(in = "Terms", words = {
        "if no bin has room, it stays, and the next one is not looked at in this hour."})
    static void withoutRoomTheLettersStay(Check check) {
        CountedPost none = still(0);
        none.addDrowned(50, 0, 1);
        none.bring(0, 9, 60);
        none.pass(5);
        check.rows("no bin at all", letterRow(none, 0), 0, 9, 60, OFFICE, 0, -1, 0, 0, -1);
        CountedPost post = still(0);
        post.addBin(10, 1);
        post.addBin(90, 1);
        post.addDrowned(10, 0, 1);
        post.addDrowned(90, 0, 1);
        post.setCrew(0, 9);
        for (int i = 0; i < 4; i++) {
            post.bring(i % 2, 9 - i, 60);
        }
        post.pass(7);
        check.rows("two of four have room", column(post, BIN), 0, 1, -1, -1);
        check.same("the one taken out", post.takeOut(1), 1);
        post.pass(1);
        check.rows("it is the heaviest one again", column(post, BIN), 0, 1, -1, -1);
        post.addBin(0, 1);
        post.pass(1);
        check.rows("a new bin is for the heavier of the two", column(post, BIN), 0, 1, 2, -1);
    }

    // ---- behind the steps

    @Sentence(in = "Terms", words = {"At first there are 2 scrapers and 3 sorters."})
    static void atFirstThereAre2ScrapersAnd3Sorters(Check check) {
        CountedPost post = still(0);
        check.rows("crew", new int[] {post.count(11), post.count(12)}, 2, 3);
        post.addBin(50, 20);
        post.addDrowned(99, 0, 1);
        bringMany(post, 5, 0, 1, 60);
        post.pass(1);
        check.same("sorted in the first hour", post.bin(0, 2), 3);
        post.pass(1);
        check.same("sorted in two hours", post.bin(0, 2), 5);
        post.beginTides(60);
        post.pass(2);
        post.beginTides(50);
        post.pass(1);
        check.rows("two are scraped in an hour", column(post, GROWTH), 0, 0, 2, 2, 2);
    }

    @Sentence(in = "Terms", words = {"What is not in a bin is not held."})
    static void whatIsNotInABinIsNotHeld(Check check) {
        CountedPost post = flood();
        post.addDrowned(0, 1, 2);
        post.bring(0, 1, 60);
        post.bring(0, 1, 2);
        post.pass(2);
        check.rows("in the bin", column(post, HELD), 1, 1);
        post.pass(1);
        check.rows("lost", column(post, HELD), 2, 0);
        post.pass(1);
        check.rows("gone down, lost, on its way", column(post, HELD), 0, 0, 0);
        post.setCrew(0, 0);
        post.bring(0, 1, 60);
        post.pass(5);
        check.rows("in the office at the tide 99", letterRow(post, 3), 0, 1, 60, OFFICE, 0, -1, 0, 0, -1);
        post.beginTides(0);
        post.pass(1);
        check.rows("here", letterRow(post, 2), 0, 1, 60, HERE, 0, -1, 0, 0, 0);
        CountedPost out = flood();
        out.addDrowned(0, 0, 1);
        out.bring(0, 1, 60);
        out.pass(3);
        out.beginTides(0);
        out.takeOut(0);
        check.same("taken out", out.letter(0, HELD), 0);
        out.beginTides(99);
        check.same("it is held from the beginning", out.pass(3), 0);
        check.same("and goes down in the third hour", out.pass(1), 1);
    }
}
