import java.util.Arrays;
import java.util.function.Supplier;

/** Promises 16 to 20: looking ahead. SentencesTest runs it. */
final class AheadSentences extends Scene {
    private AheadSentences() {
    }

    /** An answer that waits from the hour 72 on for the low tide of the hour 99. */
    private static CountedPost answerInTheHour99() {
        CountedPost post = still(50);
        for (int hour = 1; hour < 30; hour++) {
            post.addTide(hour == 9 ? 30 : hour >= 10 && hour <= 12 ? 99 : 50);
        }
        post.addBin(60, 1);
        post.addDrowned(99, 1, 60);
        post.bring(0, 1, 60);
        return post;
    }

    // ---- Promise 16: foresee

    @Sentence(in = "Promise 16", words = {"`hours`: how many, 1 to 100"})
    static void promise16Foresees1To100Hours(Check check) {
        CountedPost post = oneByOne(40, 60);
        check.same("1", post.foresee(1, 0), 0);
        check.same("99, the last one is the hour 98", post.foresee(99, 0), 32);
        check.same("100, the last one is the hour 99", post.foresee(100, 0), 33);
        check.same("nothing", new CountedPost().foresee(100, 0), 0);
        post.pass(200);
        check.same("what has gone down before is not told", post.foresee(100, 0), 0);
    }

    @Sentence(in = "Promise 16", words = {"`what`: 0 letters that will have gone down in these hours,"})
    static void promise16ForeseesWhatGoesDown(Check check) {
        CountedPost post = flood();
        post.addDrowned(0, 1, 1);
        bringMany(post, 2, 0, 1, 60);
        post.pass(1);
        bringMany(post, 1, 0, 1, 60);
        check.rows("in a bin, and in the office", foreseen(post, 0, 6), 0, 0, 2, 3, 3, 3);
        check.same("as it comes", post.pass(3), 2);
        check.rows("from then on", foreseen(post, 0, 3), 1, 1, 1);
    }

    @Sentence(in = "Promise 16", words = {"1 that will be lost in them,"})
    static void promise16ForeseesWhatIsLost(Check check) {
        CountedPost post = oneByOne(120, 1);
        check.rows("one in each hour, behind the first one", foreseen(post, 1, 5), 0, 1, 2, 3, 4);
        check.same("in 100", post.foresee(100, 1), 99);
        check.same("none goes down", post.foresee(100, 0), 0);
        post.pass(10);
        check.rows("from then on", foreseen(post, 1, 3), 1, 2, 3);
        post.beginTides(0);
        check.same("none when the tide stays low", post.foresee(100, 1), 0);
    }

    @Sentence(in = "Promise 16", words = {"2 answers that will come here in them"})
    static void promise16ForeseesWhatComesHere(Check check) {
        CountedPost post = answerInTheHour99();
        check.same("99 hours", post.foresee(99, 2), 0);
        check.same("100 hours", post.foresee(100, 2), 1);
        post.pass(13);
        check.same("it is on its way", post.letter(1, STATE_OF), ON_ITS_WAY);
        check.same("till 99", post.foresee(86, 2), 0);
        check.same("in 99", post.foresee(87, 2), 1);
        post.pass(87);
        check.same("it is here", post.letter(1, STATE_OF), HERE);
        check.same("what is here does not come again", post.foresee(100, 2), 0);
    }

    @Sentence(in = "Promise 16", words = {"Returns this, if nothing else is done (nothing is changed)."})
    static void promise16ForeseesWhatComesAndChangesNothing(Check check) {
        for (int hours = 1; hours <= 100; hours += hours < 8 ? 1 : 23) {
            CountedPost post = busy();
            int[] told = {post.foresee(hours, 0), post.foresee(hours, 1), post.foresee(hours, 2)};
            int[] before = counts(post);
            check.same("digest of one that did not look ahead", post.digest(), busy().digest());
            check.same("told twice", post.foresee(hours, 0), told[0]);
            check.same("pass(" + hours + ")", post.pass(hours), told[0]);
            check.rows("what comes in " + hours, new int[] {post.count(6) - before[6], post.count(7) - before[7],
                post.count(9) - before[9]}, told);
            CountedPost other = busy();
            other.pass(hours);
            check.same("digest behind looking and passing", post.digest(), other.digest());
        }
        CountedPost full = flood();
        full.addDrowned(0, 1, 1);
        bringMany(full, 149, 0, 1, 60);
        full.foresee(100, 0);
        check.same("the answer that was foreseen is not written", full.count(3), 149);
        check.same("the 150th can be brought", full.bring(0, 1, 60), 149);
    }

    @Sentence(in = "Promise 16", words = {"if nothing else is done"})
    static void promise16LooksFromWhatIsNow(Check check) {
        CountedPost post = tides(30);
        post.addBin(29, 20);
        post.addDrowned(30, 3, 1);
        bringMany(post, 2, 0, 1, 60);
        check.same("two letters to one who answers the third", post.foresee(100, 2), 0);
        post.pass(4);
        check.same("no third one is there", post.foresee(100, 2), 0);
        post.bring(0, 1, 60);
        check.rows("with those that have gone down before", foreseen(post, 2, 6), 0, 0, 0, 0, 1, 1);
        check.same("asked again", post.foresee(5, 2), 1);
        post.setCrew(0, 0);
        check.rows("with nobody who sorts", new int[] {post.foresee(100, 0), post.fate(2, 100)}, 0, OFFICE);
        bringMany(post, 8, 0, 1, 60);
        for (int sorters : new int[] {1, 9, 0, 4}) {
            post.setCrew(0, sorters);
            check.same("with " + sorters + " who sort", post.foresee(4, 0), sorters);
        }
        post.setCrew(0, 9);
        post.beginTides(29);
        check.same("with another table", post.foresee(100, 0), 0);
        post.addBin(28, 2);
        post.addDrowned(0, 0, 1);
        bringMany(post, 3, 1, 9, 60);
        check.same("with another bin, and another one of the drowned", post.foresee(4, 0), 2);
        CountedPost scraped = tides(60, 0);
        scraped.addBin(50, 1);
        scraped.addDrowned(99, 0, 1);
        scraped.bring(0, 3, 5);
        for (int scrapers : new int[] {1, 0, 2, 0, 9}) {
            scraped.setCrew(scrapers, 1);
            check.same("with " + scrapers + " who scrape", scraped.foresee(100, 1), scrapers == 0 ? 1 : 0);
        }
    }

    @Sentence(in = "Promise 16", words = {"Throws `IllegalArgumentException` if hours is not 1 to 100"})
    static void promise16ThrowsArgument(Check check) {
        CountedPost post = busy();
        for (int hours : new int[] {0, -1, 101, 200, LEAST, GREATEST}) {
            check.refuses("hours " + hours, ARGUMENT, post, () -> post.foresee(hours, 0));
        }
        check.same("1", post.foresee(1, 0), busy().pass(1));
        check.same("100", post.foresee(100, 0), busy().pass(100));
    }

    @Sentence(in = "Promise 16", words = {"Throws `IndexOutOfBoundsException` if what is not 0 to 2"})
    static void promise16ThrowsIndex(Check check) {
        CountedPost post = busy();
        for (int what : new int[] {-1, 3, LEAST, GREATEST}) {
            check.refuses("what " + what, INDEX, post, () -> post.foresee(1, what));
            check.refuses("what " + what + " in 100 hours", INDEX, post, () -> post.foresee(100, what));
        }
        CountedPost none = new CountedPost();
        check.rows("0 and 2", new int[] {none.foresee(1, 0), none.foresee(1, 2)}, 0, 0);
    }

    // ---- Promise 17: fate

    @Sentence(in = "Promise 17", words = {"`hours`: how many, 1 to 100"})
    static void promise17TellsTheFateIn1To100Hours(Check check) {
        CountedPost post = oneByOne(40, 60);
        check.rows("the first in 1 and in 100", new int[] {post.fate(0, 1), post.fate(0, 100)}, IN_BIN, DOWN);
        check.rows("the 33rd goes down in the hour 99", new int[] {post.fate(32, 99), post.fate(32, 100)}, IN_BIN, DOWN);
        check.rows("the 34th is sorted in it", new int[] {post.fate(33, 99), post.fate(33, 100)}, OFFICE, IN_BIN);
        check.rows("the last one stays", new int[] {post.fate(39, 1), post.fate(39, 100)}, OFFICE, OFFICE);
    }

    @Sentence(in = "Promise 17", words = {"Returns its state, if so many hours went by (nothing is changed)."})
    static void promise17TellsEachStateAndChangesNothing(Check check) {
        CountedPost post = tides(99, 99, 99, 99, 0);
        post.addBin(0, 2);
        post.addDrowned(0, 1, 1);
        post.addDrowned(0, 1, 2);
        post.bring(0, 1, 4);
        post.bring(1, 1, 3);
        post.bring(1, 1, 60);
        check.rows("it goes down", fates(post, 0, 5), IN_BIN, IN_BIN, IN_BIN, DOWN, DOWN);
        check.rows("it is lost", fates(post, 1, 5), IN_BIN, IN_BIN, IN_BIN, LOST, LOST);
        check.rows("it waits for room", fates(post, 2, 5), OFFICE, OFFICE, OFFICE, IN_BIN, IN_BIN);
        check.rows("nothing is changed", column(post, STATE_OF), OFFICE, OFFICE, OFFICE);
        check.same("nor the hour", post.count(0), 0);
        post.pass(4);
        check.rows("an answer comes here", fates(post, 3, 3), HERE, HERE, HERE);
        check.rows("what is lost stays lost", fates(post, 1, 3), LOST, LOST, LOST);
        check.rows("nothing is changed", column(post, STATE_OF), DOWN, LOST, IN_BIN, ON_ITS_WAY);
        CountedPost asItComes = busy();
        int letters = asItComes.count(3);
        for (int hours = 1; hours <= 100; hours += 33) {
            CountedPost later = busy();
            later.pass(hours);
            for (int letter = 0; letter < letters; letter++) {
                check.same("fate(" + letter + ", " + hours + ")",
                        asItComes.fate(letter, hours), later.letter(letter, STATE_OF));
            }
        }
        check.same("digest of one that did not ask", asItComes.digest(), busy().digest());
    }

    @Sentence(in = "Promise 17", words = {"Throws `IndexOutOfBoundsException` if there is no such letter"})
    static void promise17ThrowsIndex(Check check) {
        CountedPost post = flood();
        post.addDrowned(0, 1, 60);
        check.refuses("no letter at all", INDEX, post, () -> post.fate(0, 1));
        bringMany(post, 2, 0, 1, 60);
        for (int letter : new int[] {-1, 2, 149, 150, LEAST, GREATEST}) {
            check.refuses("letter " + letter, INDEX, post, () -> post.fate(letter, 1));
        }
        check.refuses("an answer that would be there then", INDEX, post, () -> post.fate(2, 100));
        check.same("the last one", post.fate(1, 100), DOWN);
        post.pass(4);
        check.same("the answer that is there", post.fate(2, 100), ON_ITS_WAY);
    }

    @Sentence(in = "Promise 17", words = {"Throws `IllegalArgumentException` if hours is not 1 to 100"})
    static void promise17ThrowsArgument(Check check) {
        CountedPost post = busy();
        for (int hours : new int[] {0, -1, 101, 200, LEAST, GREATEST}) {
            check.refuses("hours " + hours, ARGUMENT, post, () -> post.fate(0, hours));
        }
        CountedPost later = busy();
        later.pass(1);
        check.same("1", post.fate(3, 1), later.letter(3, STATE_OF));
        later.pass(99);
        check.same("100", post.fate(3, 100), later.letter(3, STATE_OF));
    }

    // ---- Promise 18: reaches

    @Sentence(in = "Promise 18", words = {"Returns the number of the first hour, from that which is now on, behind which a "
            + "letter that lay in the bin now, held no hour, would be held 3 hours"})
    static void promise18TellsTheFirstHourBehindThreeFromNowOn(Check check) {
        CountedPost post = tides(60, 60, 60, 60, 59, 61, 61, 61, 50);
        post.addBin(59, 1);
        post.addBin(60, 1);
        post.addDrowned(60, 0, 1);
        post.addDrowned(61, 0, 1);
        post.addDrowned(0, 0, 1);
        int[] low = {2, 3, 7, 7, 7, 7, 11, 11, 11, 11, 12};
        int[] high = {7, 7, 7, 7, 7, 7, 16, 16, 16, 16, 16};
        for (int hour = 0; hour < low.length; hour++) {
            check.same("drowned at 60, bin at 59, hour " + hour, post.reaches(0, 0), low[hour]);
            check.same("drowned at 61, bin at 59, hour " + hour, post.reaches(1, 0), high[hour]);
            check.same("drowned at 60, bin at 60, hour " + hour, post.reaches(0, 1), high[hour]);
            check.same("drowned at 0, bin at 60, hour " + hour, post.reaches(2, 1), high[hour]);
            post.pass(1);
        }
    }

    @Sentence(in = "Promise 18", words = {"would be held 3 hours"})
    static void promise18TellsTheHourInWhichALetterGoesDown(Check check) {
        for (int start = 0; start < 12; start++) {
            CountedPost post = new CountedPost();
            post.addBin(40, 1);
            post.addDrowned(75, 0, 1);
            post.setCrew(0, 1);
            if (start > 0) {
                post.pass(start);
            }
            post.bring(0, 1, 60);
            post.pass(1);
            int told = post.reaches(0, 0);
            int hour = post.count(0);
            int last = hour + 40;
            while (hour < last && post.pass(1) == 0) {
                hour++;
            }
            check.same("brought in the hour " + start, told, hour);
        }
    }

    @Sentence(in = "Promise 18", words = {"(barnacles do not matter);"})
    static void promise18DoesNotLookAtBarnacles(Check check) {
        CountedPost post = still(99);
        post.addBin(0, 1);
        post.addDrowned(0, 0, 1);
        check.same("an empty bin", post.reaches(0, 0), 2);
        post.bring(0, 9, 5);
        post.pass(2);
        check.same("a full bin, with a letter held one hour", post.reaches(0, 0), 4);
        check.same("though that one is lost", post.fate(0, 1), LOST);
        post.pass(1);
        check.same("behind its loss", post.reaches(0, 0), 5);
        CountedPost late = still(0);
        for (int hour = 1; hour < 30; hour++) {
            late.addTide(hour < 27 ? 20 : 99);
        }
        late.addBin(10, 1);
        late.addDrowned(99, 0, 1);
        check.same("26 hours under water before it is held", late.reaches(0, 0), 29);
    }

    @Sentence(in = "Promise 18", words = {"-1 if it is none of the next 200, this one with them."})
    static void promise18TellsThatNoHourIsThatHour(Check check) {
        CountedPost never = tides(99, 99, 0);
        never.addBin(50, 1);
        never.addDrowned(0, 0, 1);
        check.same("two hours of three", never.reaches(0, 0), -1);
        never.pass(1);
        check.same("an hour later", never.reaches(0, 0), -1);
        CountedPost high = still(98);
        high.addBin(98, 1);
        high.addBin(97, 1);
        high.addDrowned(0, 0, 1);
        high.addDrowned(99, 0, 1);
        check.same("the bin is never under water", high.reaches(0, 0), -1);
        check.same("the tide is never as high as the drowned", high.reaches(1, 1), -1);
        check.same("the bin is always under water", high.reaches(0, 1), 2);
        CountedPost longest = still(0);
        for (int hour = 1; hour < 30; hour++) {
            longest.addTide(hour >= 3 && hour <= 5 ? 99 : 0);
        }
        longest.addBin(50, 1);
        longest.addDrowned(99, 0, 1);
        int[] due = {5, 5, 5, 5, 35, 35, 35};
        for (int hour = 0; hour < due.length; hour++) {
            check.same("the longest table, hour " + hour, longest.reaches(0, 0), due[hour]);
            longest.pass(1);
        }
        CountedPost round = still(99);
        for (int hour = 1; hour < 30; hour++) {
            round.addTide(hour == 1 || hour == 29 ? 99 : 0);
        }
        round.addBin(50, 1);
        round.addDrowned(99, 0, 1);
        check.same("the last hour of the table and its first two", round.reaches(0, 0), 31);
    }

    @Sentence(in = "Promise 18", words = {
        "Throws `IndexOutOfBoundsException` if there is no such one of the drowned, or no such bin"})
    static void promise18ThrowsIndex(Check check) {
        CountedPost post = still(99);
        check.refuses("nobody and no bin", INDEX, post, () -> post.reaches(0, 0));
        post.addDrowned(0, 0, 1);
        check.refuses("no bin", INDEX, post, () -> post.reaches(0, 0));
        post.addDrowned(0, 0, 1);
        post.addBin(0, 1);
        CountedPost nobody = still(99);
        nobody.addBin(0, 1);
        check.refuses("nobody", INDEX, nobody, () -> nobody.reaches(0, 0));
        for (int one : new int[] {-1, 2, 15, 16, LEAST, GREATEST}) {
            check.refuses("one " + one, INDEX, post, () -> post.reaches(one, 0));
            check.refuses("both " + one, INDEX, post, () -> post.reaches(one, one));
        }
        for (int bin : new int[] {-1, 1, 9, 10, LEAST, GREATEST}) {
            check.refuses("bin " + bin, INDEX, post, () -> post.reaches(0, bin));
        }
        check.same("the last one and the last bin", post.reaches(1, 0), 2);
    }

    // ---- Promise 19: barnacles

    @Sentence(in = "Promise 19", words = {"Returns the mean of the barnacles of all letters in bins;"})
    static void promise19TellsTheMeanOfAllLettersInBins(Check check) {
        CountedPost post = still(60);
        post.addBin(50, 2);
        post.addBin(55, 1);
        post.addDrowned(99, 0, 1);
        post.setCrew(0, 9);
        post.bring(0, 1, 60);
        post.pass(2);
        check.sameMean("one letter", post.barnacles(), 1.0);
        post.bring(0, 3, 60);
        post.pass(2);
        check.sameMean("3 and 2", post.barnacles(), 2.5);
        post.bring(0, 9, 60);
        post.pass(2);
        check.sameMean("5, 6 and 4 in two bins", post.barnacles(), 5.0);
        post.pass(1);
        check.sameMean("6, 8 and 8", post.barnacles(), 22.0 / 3);
        post.beginTides(50);
        post.takeOut(1);
        check.sameMean("6 and 8 without the letter in the office", post.barnacles(), 7.0);
        CountedPost none = flood();
        none.addDrowned(0, 0, 1);
        bringMany(none, 3, 0, 1, 60);
        none.pass(1);
        check.sameMean("letters without barnacles", none.barnacles(), 0.0);
        none.pass(1);
        bringMany(none, 4, 0, 1, 60);
        none.pass(1);
        check.sameMean("2, 2, 2, 0, 0, 0, 0", none.barnacles(), 6.0 / 7);
        none.pass(1);
        check.sameMean("1, 1, 1, 1 without those that have gone down", none.barnacles(), 1.0);
    }

    @Sentence(in = "Promise 19", words = {"0 if there are none."})
    static void promise19Tells0IfThereAreNone(Check check) {
        check.sameMean("no letter at all", new CountedPost().barnacles(), 0.0);
        CountedPost post = flood();
        post.addDrowned(0, 1, 1);
        post.bring(0, 1, 60);
        post.bring(0, 9, 4);
        check.sameMean("letters in the office", post.barnacles(), 0.0);
        post.pass(3);
        check.sameMean("one in the bin", post.barnacles(), 2.0);
        post.beginTides(0);
        post.takeOut(0);
        check.sameMean("its barnacles are in the office", post.barnacles(), 0.0);
        post.pass(1);
        post.beginTides(99);
        post.pass(3);
        check.rows("gone down, lost, on its way", column(post, STATE_OF), DOWN, LOST, ON_ITS_WAY);
        check.sameMean("none in a bin", post.barnacles(), 0.0);
    }

    // ---- Promise 20: digest

    /** The checksum by its words, read from as many objects of the same history as the 512 calls make needful. */
    private static long digestByWords(Supplier<CountedPost> history) {
        CountedPost post = history.get();
        long d = digestBehind(479, counts(post));
        d = digestBehind(d, tideRow(post, post.count(10)));
        int bins = post.count(1);
        int drowned = post.count(2);
        int letters = post.count(3);
        for (int bin = 0; bin < bins; bin++) {
            d = digestBehind(d, binRow(post, bin));
        }
        for (int one = 0; one < drowned; one++) {
            d = digestBehind(d, drownedRow(post, one));
        }
        for (int letter = 0; letter < letters; letter++) {
            if (post.callsLeft() < 9) {
                post = history.get();
            }
            d = digestBehind(d, letterRow(post, letter));
        }
        return d;
    }

    @Sentence(in = "Promise 20", words = {"Computes a checksum. A number d starts with 479; for each of the following "
            + "numbers x, d becomes d * 31 + x,", "what count() tells, in its order; the heights of the table;",
            "Returns d."})
    static void promise20DigestOfANewObject(Check check) {
        long counts = digestBehind(479, 0, 0, 0, 0, 0, 0, 0, 0, 0, 0, 12, 2, 3);
        check.same("a new object", new CountedPost().digest(),
                digestBehind(counts, 10, 20, 35, 55, 75, 90, 95, 85, 65, 45, 25, 12));
        long later = digestBehind(479, 200, 0, 0, 0, 0, 0, 0, 0, 0, 0, 2, 9, 0);
        CountedPost post = tides(99, 0);
        post.setCrew(9, 0);
        post.pass(200);
        check.same("another table, crew and hour", post.digest(), digestBehind(later, 99, 0));
        CountedPost one = still(0);
        check.same("a table of one height", one.digest(),
                digestBehind(479, 0, 0, 0, 0, 0, 0, 0, 0, 0, 0, 1, 2, 3, 0));
    }

    @Sentence(in = "Promise 20", words = {"for each bin what bin() tells, in its order;"})
    static void promise20DigestOfBins(Check check) {
        CountedPost post = still(50);
        post.addBin(49, 20);
        post.addBin(50, 1);
        check.same("two bins, one under water", post.digest(),
                digestBehind(479, 0, 2, 0, 0, 0, 0, 0, 0, 0, 0, 1, 2, 3, 50, 49, 20, 0, 1, 0, 50, 1, 0, 0, 0));
    }

    @Sentence(in = "Promise 20", words = {"for each of the drowned what drowned() tells, in its order;"})
    static void promise20DigestOfTheDrowned(Check check) {
        CountedPost post = still(50);
        post.addDrowned(7, 5, 60);
        post.addDrowned(8, 0, 1);
        check.same("two drowned", post.digest(),
                digestBehind(479, 0, 0, 2, 0, 0, 0, 0, 0, 0, 0, 1, 2, 3, 50, 7, 5, 60, 0, 0, 8, 0, 1, 0, 0));
    }

    @Sentence(in = "Promise 20", words = {"for each letter what letter() tells, in its order."})
    static void promise20DigestOfLetters(Check check) {
        CountedPost post = flood();
        post.addDrowned(0, 1, 6);
        post.bring(0, 3, 60);
        long office = digestBehind(479, 0, 1, 1, 1, 1, 0, 0, 0, 0, 0, 1, 0, 9, 99);
        office = digestBehind(office, 0, 20, 0, 1, 0);
        office = digestBehind(office, 0, 1, 6, 0, 0);
        check.same("in the office", post.digest(), digestBehind(office, 0, 3, 60, 0, 0, -1, 0, 0, -1));
        post.pass(3);
        long bin = digestBehind(479, 3, 1, 1, 1, 0, 1, 0, 0, 0, 0, 1, 0, 9, 99);
        bin = digestBehind(bin, 0, 20, 1, 1, 4);
        bin = digestBehind(bin, 0, 1, 6, 0, 0);
        check.same("in a bin", post.digest(), digestBehind(bin, 0, 3, 60, 1, 4, 0, 2, 0, -1));
        post.pass(1);
        long down = digestBehind(479, 4, 1, 1, 2, 0, 0, 1, 0, 1, 0, 1, 0, 9, 99);
        down = digestBehind(down, 0, 20, 0, 1, 0);
        down = digestBehind(down, 0, 1, 6, 1, 1);
        check.same("gone down, and its answer", post.digest(),
                digestBehind(down, 0, 3, 60, 2, 6, -1, 0, 0, -1, 0, 3, 60, 4, 0, -1, 0, 6, 0));
        check.same("told twice", post.digest(), post.digest());
    }

    @Sentence(in = "Promise 20", words = {"which wraps around as a 64-bit integer:"})
    static void promise20DigestWrapsAroundWhenAllIsFull(Check check) {
        for (int hours : new int[] {0, 1, 30, 200}) {
            Supplier<CountedPost> history = () -> fullOffice(hours);
            CountedPost post = history.get();
            check.rows("full", Arrays.copyOfRange(counts(post), 1, 4), 10, 16, 150);
            check.same("heights", post.count(10), 30);
            check.same("digest behind " + hours + " hours", post.digest(), digestByWords(history));
        }
    }

    /** 30 heights, 10 bins, 16 drowned and 150 letters, so many hours later. */
    private static CountedPost fullOffice(int hours) {
        CountedPost post = still(50);
        for (int hour = 1; hour < 30; hour++) {
            post.addTide(hour * 37 % 100);
        }
        for (int bin = 0; bin < 10; bin++) {
            post.addBin(bin * 9, 1 + 2 * bin);
        }
        for (int one = 0; one < 16; one++) {
            post.addDrowned(6 * one, one % 6, 1 + one);
        }
        for (int letter = 0; letter < 150; letter++) {
            post.bring(letter % 16, 1 + letter % 9, 1 + letter * 7 % 60);
        }
        post.setCrew(3, 9);
        if (hours > 0) {
            post.pass(hours);
        }
        return post;
    }
}
