import java.util.ArrayList;
import java.util.List;
import java.util.function.Consumer;
import java.util.function.Supplier;

/** 'Terms', the last two sentences, for each method that throws. SentencesTest runs it. */
final class RefusalSentences extends Scene {
    private static final String NOTHING = "A method that throws an exception changes nothing.";
    private static final String FIRST = "If several exceptions apply, the one that is named first is thrown.";

    private RefusalSentences() {
    }

    // ---- offices in which calls are refused

    private static CountedPost fullTable() {
        CountedPost post = busy();
        for (int many = post.count(10); many < 30; many++) {
            post.addTide(3 * many);
        }
        return post;
    }

    private static CountedPost fullBins() {
        CountedPost post = busy();
        for (int bin = post.count(1); bin < 10; bin++) {
            post.addBin(bin * 10, 1);
        }
        return post;
    }

    private static CountedPost fullDrowned() {
        CountedPost post = busy();
        for (int one = post.count(2); one < 16; one++) {
            post.addDrowned(one * 5, 1, one);
        }
        return post;
    }

    private static CountedPost fullLetters() {
        CountedPost post = busy();
        for (int letter = post.count(3); letter < 150; letter++) {
            post.bring(letter % 4, 1 + letter % 9, 60);
        }
        return post;
    }

    /** busy() with one letter more, in a bin under water. */
    private static CountedPost wet() {
        CountedPost post = busy();
        post.addBin(0, 1);
        post.addDrowned(0, 0, 1);
        post.setCrew(1, 9);
        post.beginTides(0);
        int letter = post.bring(4, 9, 60);
        post.pass(1);
        post.beginTides(1);
        if (post.letter(letter, STATE_OF) != IN_BIN || letter != wetLetter()) {
            throw new AssertionError("the letter " + letter + " is not where this test wants it");
        }
        return post;
    }

    private static int wetLetter() {
        return busy().count(3);
    }

    @Sentence(in = "Terms", words = {NOTHING})
    static void theBusyOfficeHasLettersInEachState(Check check) {
        CountedPost post = busy();
        for (int state = 0; state <= 5; state++) {
            check.holds("letters with the state " + state, post.count(4 + state) > 0);
        }
        check.holds("barnacles on letters in bins", post.barnacles() > 0);
    }

    // ---- what is told of an office, and what it does from then on

    private static List<Long> told(CountedPost post) {
        List<Long> row = new ArrayList<>();
        row.add(post.digest());
        for (int count : counts(post)) {
            row.add((long) count);
        }
        for (int height : tideRow(post, 31)) {
            row.add((long) height);
        }
        int drowned = post.count(2);
        int bins = post.count(1);
        for (int one = 0; one < drowned; one++) {
            row.add((long) post.binFor(one));
            row.add((long) post.reaches(one, one % bins));
        }
        for (int what = 0; what < 3; what++) {
            row.add((long) post.foresee(100, what));
        }
        for (int letter = 0; letter < 25; letter++) {
            row.add((long) post.fate(letter, 7));
        }
        row.add((long) (post.barnacles() * 1000000));
        return row;
    }

    /** An office in which the call was refused goes on as one in which it was never tried. */
    private static void changesNothing(Check check, String what, Class<? extends RuntimeException> due,
            Supplier<CountedPost> office, Consumer<CountedPost> call) {
        CountedPost refused = office.get();
        CountedPost untried = office.get();
        Class<?> thrown = null;
        try {
            call.accept(refused);
        } catch (RuntimeException e) {
            thrown = e.getClass();
        }
        check.holds(what + " throws " + due.getSimpleName() + " (it threw " + thrown + ")", thrown == due);
        check.holds(what + ": all that is told is as before", told(refused).equals(told(untried)));
        for (int hours : new int[] {1, 2, 40}) {
            check.same(what + ": pass", refused.pass(hours), untried.pass(hours));
            check.same(what + ": digest behind hours", refused.digest(), untried.digest());
        }
    }

    @Sentence(in = "Terms", words = {NOTHING})
    static void beginTidesThatThrowsChangesNothing(Check check) {
        for (int height : new int[] {-1, 100, LEAST, GREATEST}) {
            changesNothing(check, "beginTides " + height, ARGUMENT, Scene::busy, post -> post.beginTides(height));
        }
    }

    @Sentence(in = "Terms", words = {NOTHING})
    static void addTideThatThrowsChangesNothing(Check check) {
        for (int height : new int[] {-1, 100, LEAST, GREATEST}) {
            changesNothing(check, "addTide " + height, ARGUMENT, Scene::busy, post -> post.addTide(height));
        }
        changesNothing(check, "addTide, full", STATE, RefusalSentences::fullTable, post -> post.addTide(0));
    }

    @Sentence(in = "Terms", words = {NOTHING})
    static void tideThatThrowsChangesNothing(Check check) {
        changesNothing(check, "tide -1", ARGUMENT, Scene::busy, post -> post.tide(-1));
        changesNothing(check, "tide least", ARGUMENT, Scene::busy, post -> post.tide(LEAST));
    }

    @Sentence(in = "Terms", words = {NOTHING})
    static void addBinThatThrowsChangesNothing(Check check) {
        changesNothing(check, "addBin height", ARGUMENT, Scene::busy, post -> post.addBin(100, 20));
        changesNothing(check, "addBin room", ARGUMENT, Scene::busy, post -> post.addBin(50, 0));
        changesNothing(check, "addBin room", ARGUMENT, Scene::busy, post -> post.addBin(50, 21));
        changesNothing(check, "addBin, full", STATE, RefusalSentences::fullBins, post -> post.addBin(50, 20));
    }

    @Sentence(in = "Terms", words = {NOTHING})
    static void setCrewThatThrowsChangesNothing(Check check) {
        changesNothing(check, "setCrew scrapers", ARGUMENT, Scene::busy, post -> post.setCrew(10, 9));
        changesNothing(check, "setCrew scrapers", ARGUMENT, Scene::busy, post -> post.setCrew(-1, 9));
        changesNothing(check, "setCrew sorters", ARGUMENT, Scene::busy, post -> post.setCrew(9, 10));
        changesNothing(check, "setCrew sorters", ARGUMENT, Scene::busy, post -> post.setCrew(9, -1));
    }

    @Sentence(in = "Terms", words = {NOTHING})
    static void addDrownedThatThrowsChangesNothing(Check check) {
        changesNothing(check, "addDrowned height", ARGUMENT, Scene::busy, post -> post.addDrowned(100, 1, 1));
        changesNothing(check, "addDrowned n", ARGUMENT, Scene::busy, post -> post.addDrowned(50, 6, 1));
        changesNothing(check, "addDrowned lag", ARGUMENT, Scene::busy, post -> post.addDrowned(50, 1, 0));
        changesNothing(check, "addDrowned lag", ARGUMENT, Scene::busy, post -> post.addDrowned(50, 1, 61));
        changesNothing(check, "addDrowned, full", STATE, RefusalSentences::fullDrowned, post -> post.addDrowned(50, 1, 1));
    }

    @Sentence(in = "Terms", words = {NOTHING})
    static void bringThatThrowsChangesNothing(Check check) {
        changesNothing(check, "bring to", INDEX, Scene::busy, post -> post.bring(4, 1, 60));
        changesNothing(check, "bring to", INDEX, Scene::busy, post -> post.bring(-1, 1, 60));
        changesNothing(check, "bring weight", ARGUMENT, Scene::busy, post -> post.bring(0, 0, 60));
        changesNothing(check, "bring weight", ARGUMENT, Scene::busy, post -> post.bring(0, 10, 60));
        changesNothing(check, "bring seal", ARGUMENT, Scene::busy, post -> post.bring(0, 1, 0));
        changesNothing(check, "bring seal", ARGUMENT, Scene::busy, post -> post.bring(0, 1, 61));
        changesNothing(check, "bring, full", STATE, RefusalSentences::fullLetters, post -> post.bring(0, 1, 60));
    }

    @Sentence(in = "Terms", words = {NOTHING})
    static void takeOutThatThrowsChangesNothing(Check check) {
        changesNothing(check, "takeOut -1", INDEX, Scene::busy, post -> post.takeOut(-1));
        changesNothing(check, "takeOut 150", INDEX, Scene::busy, post -> post.takeOut(150));
        int[] states = column(busy(), STATE_OF);
        for (int state : new int[] {OFFICE, DOWN, LOST, ON_ITS_WAY, HERE}) {
            int letter = 0;
            while (letter < states.length - 1 && states[letter] != state) {
                letter++;
            }
            int first = letter;
            check.same("a letter with the state " + state, states[first], state);
            changesNothing(check, "takeOut with the state " + state, STATE, Scene::busy,
                    post -> post.takeOut(first));
        }
        int wet = wetLetter();
        changesNothing(check, "takeOut under water", STATE, RefusalSentences::wet, post -> post.takeOut(wet));
    }

    @Sentence(in = "Terms", words = {NOTHING})
    static void whatOnlyTellsChangesNothingWhenItThrows(Check check) {
        changesNothing(check, "letter", INDEX, Scene::busy, post -> post.letter(150, 0));
        changesNothing(check, "letter what", INDEX, Scene::busy, post -> post.letter(0, 9));
        changesNothing(check, "drowned", INDEX, Scene::busy, post -> post.drowned(4, 0));
        changesNothing(check, "drowned what", INDEX, Scene::busy, post -> post.drowned(0, 5));
        changesNothing(check, "bin", INDEX, Scene::busy, post -> post.bin(3, 0));
        changesNothing(check, "bin what", INDEX, Scene::busy, post -> post.bin(0, 5));
        changesNothing(check, "count", INDEX, Scene::busy, post -> post.count(13));
        changesNothing(check, "binFor", INDEX, Scene::busy, post -> post.binFor(4));
        changesNothing(check, "reaches one", INDEX, Scene::busy, post -> post.reaches(4, 0));
        changesNothing(check, "reaches bin", INDEX, Scene::busy, post -> post.reaches(0, 3));
    }

    @Sentence(in = "Terms", words = {NOTHING})
    static void passThatThrowsChangesNothing(Check check) {
        for (int hours : new int[] {0, -1, 201, LEAST, GREATEST}) {
            changesNothing(check, "pass " + hours, ARGUMENT, Scene::busy, post -> post.pass(hours));
        }
    }

    @Sentence(in = "Terms", words = {NOTHING})
    static void foreseeThatThrowsChangesNothing(Check check) {
        changesNothing(check, "foresee hours", ARGUMENT, Scene::busy, post -> post.foresee(0, 0));
        changesNothing(check, "foresee hours", ARGUMENT, Scene::busy, post -> post.foresee(101, 0));
        changesNothing(check, "foresee what", INDEX, Scene::busy, post -> post.foresee(50, 3));
        changesNothing(check, "foresee what", INDEX, Scene::busy, post -> post.foresee(50, -1));
    }

    @Sentence(in = "Terms", words = {NOTHING})
    static void fateThatThrowsChangesNothing(Check check) {
        changesNothing(check, "fate letter", INDEX, Scene::busy, post -> post.fate(-1, 50));
        changesNothing(check, "fate letter", INDEX, Scene::busy, post -> post.fate(149, 50));
        changesNothing(check, "fate hours", ARGUMENT, Scene::busy, post -> post.fate(0, 0));
        changesNothing(check, "fate hours", ARGUMENT, Scene::busy, post -> post.fate(0, 101));
    }

    // ---- the one that is named first

    @Sentence(in = "Terms", words = {FIRST})
    static void addTideNamesTheArgumentFirst(Check check) {
        CountedPost post = fullTable();
        for (int height : new int[] {-1, 100, LEAST, GREATEST}) {
            check.refuses("full, height " + height, ARGUMENT, post, () -> post.addTide(height));
        }
        check.refuses("full alone", STATE, post, () -> post.addTide(99));
    }

    @Sentence(in = "Terms", words = {FIRST})
    static void addBinNamesTheArgumentFirst(Check check) {
        CountedPost post = fullBins();
        check.refuses("full, height", ARGUMENT, post, () -> post.addBin(-1, 20));
        check.refuses("full, height", ARGUMENT, post, () -> post.addBin(100, 20));
        check.refuses("full, room", ARGUMENT, post, () -> post.addBin(99, 0));
        check.refuses("full, room", ARGUMENT, post, () -> post.addBin(99, 21));
        check.refuses("full alone", STATE, post, () -> post.addBin(99, 20));
    }

    @Sentence(in = "Terms", words = {FIRST})
    static void addDrownedNamesTheArgumentFirst(Check check) {
        CountedPost post = fullDrowned();
        check.refuses("full, height", ARGUMENT, post, () -> post.addDrowned(-1, 5, 60));
        check.refuses("full, height", ARGUMENT, post, () -> post.addDrowned(100, 5, 60));
        check.refuses("full, n", ARGUMENT, post, () -> post.addDrowned(99, -1, 60));
        check.refuses("full, n", ARGUMENT, post, () -> post.addDrowned(99, 6, 60));
        check.refuses("full, lag", ARGUMENT, post, () -> post.addDrowned(99, 5, 0));
        check.refuses("full, lag", ARGUMENT, post, () -> post.addDrowned(99, 5, 61));
        check.refuses("full alone", STATE, post, () -> post.addDrowned(99, 5, 60));
    }

    @Sentence(in = "Terms", words = {FIRST})
    static void bringNamesTheDrownedThenTheArgumentThenTheState(Check check) {
        CountedPost full = fullLetters();
        for (int to : new int[] {-1, 4, LEAST, GREATEST}) {
            check.refuses("full, to and weight", INDEX, full, () -> full.bring(to, 0, 1));
            check.refuses("full, to and seal", INDEX, full, () -> full.bring(to, 1, 61));
            check.refuses("full, to", INDEX, full, () -> full.bring(to, 1, 1));
        }
        check.refuses("full, weight", ARGUMENT, full, () -> full.bring(0, 0, 1));
        check.refuses("full, weight", ARGUMENT, full, () -> full.bring(0, 10, 1));
        check.refuses("full, seal", ARGUMENT, full, () -> full.bring(0, 1, 0));
        check.refuses("full, seal", ARGUMENT, full, () -> full.bring(0, 1, 61));
        check.refuses("full alone", STATE, full, () -> full.bring(0, 1, 1));
        CountedPost post = busy();
        check.refuses("to and weight", INDEX, post, () -> post.bring(4, 10, 1));
        check.refuses("to and seal", INDEX, post, () -> post.bring(-1, 1, 0));
        CountedPost nobody = new CountedPost();
        check.refuses("nobody, and all is wrong", INDEX, nobody, () -> nobody.bring(0, 0, 0));
    }

    @Sentence(in = "Terms", words = {FIRST})
    static void foreseeNamesTheHoursFirst(Check check) {
        CountedPost post = busy();
        for (int hours : new int[] {0, 101, LEAST, GREATEST}) {
            for (int what : new int[] {-1, 3, LEAST, GREATEST}) {
                check.refuses("foresee(" + hours + ", " + what + ")", ARGUMENT, post, () -> post.foresee(hours, what));
            }
        }
    }

    @Sentence(in = "Terms", words = {FIRST})
    static void fateNamesTheLetterFirst(Check check) {
        CountedPost post = busy();
        for (int letter : new int[] {-1, 150, LEAST, GREATEST}) {
            for (int hours : new int[] {0, 101, LEAST, GREATEST}) {
                check.refuses("fate(" + letter + ", " + hours + ")", INDEX, post, () -> post.fate(letter, hours));
            }
        }
    }

    @Sentence(in = "Terms", words = {FIRST})
    static void takeOutNamesTheLetterBeforeItsState(Check check) {
        CountedPost post = wet();
        check.refuses("behind the last one", INDEX, post, () -> post.takeOut(wetLetter() + 1));
        check.refuses("before the first one", INDEX, post, () -> post.takeOut(-1));
        check.refuses("the last one, under water", STATE, post, () -> post.takeOut(wetLetter()));
    }
}
