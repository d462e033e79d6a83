import java.util.Arrays;

/** The numbered promises one by one: ordinary inputs, the named edges, and wrong inputs. */
public final class PromisesTest extends Scene {
    private static final Check check = new Check();

    public static void main(String[] args) {
        promise1NewObject();
        promise2BeginTides();
        promise3AddTide();
        promise4Tide();
        promise5AddBin();
        promise6SetCrew();
        promise7AddDrowned();
        promise8Bring();
        promise9TakeOut();
        promise10Letter();
        promise11Drowned();
        promise12Bin();
        promise13Pass();
        promise13Water();
        promise13HeldInARow();
        promise13Answers();
        promise13FullOfLetters();
        promise13OnTheWay();
        promise13Scraping();
        promise13Sorting();
        promise14Count();
        promise15BinFor();
        promise16Foresee();
        promise17Fate();
        promise16and17AheadAsItComes();
        promise18Reaches();
        promise19Barnacles();
        promise20Digest();
        check.end("PromisesTest");
    }

    private static void promise1NewObject() {
        CountedPost post = new CountedPost();
        check.rows("counts of a new object", counts(post), 0, 0, 0, 0, 0, 0, 0, 0, 0, 0, 12, 2, 3);
        int[] tides = new int[12];
        for (int hour = 0; hour < 12; hour++) {
            tides[hour] = post.tide(hour);
        }
        check.rows("first tides", tides, 10, 20, 35, 55, 75, 90, 95, 85, 65, 45, 25, 12);
        CountedPost other = new CountedPost();
        other.addBin(1, 1);
        other.beginTides(99);
        check.same("bins of one object beside another", post.count(1), 0);
        check.same("tides of one object beside another", new CountedPost().tide(0), 10);
    }

    private static void promise2BeginTides() {
        CountedPost post = new CountedPost();
        check.same("beginTides(0)", post.beginTides(0), 12);
        check.same("heights", post.count(10), 1);
        check.same("tide(7)", post.tide(7), 0);
        check.same("beginTides(99)", post.beginTides(99), 1);
        check.same("tide(0)", post.tide(0), 99);
        check.refuses("beginTides(-1)", ARGUMENT, post, () -> post.beginTides(-1));
        check.refuses("beginTides(100)", ARGUMENT, post, () -> post.beginTides(100));
        check.refuses("beginTides(least)", ARGUMENT, post, () -> post.beginTides(Integer.MIN_VALUE));
        check.same("tide(0) behind the wrong ones", post.tide(0), 99);
        post.pass(7);
        check.same("beginTides(5) at the hour 7", post.beginTides(5), 1);
        check.same("the hour stays", post.count(0), 7);
    }

    private static void promise3AddTide() {
        CountedPost post = new CountedPost();
        check.same("addTide(33) behind the first 12", post.addTide(33), 13);
        check.same("tide(12)", post.tide(12), 33);
        check.same("tide(13)", post.tide(13), 10);
        post.beginTides(1);
        for (int i = 2; i <= 30; i++) {
            check.same("addTide", post.addTide(i == 30 ? 99 : i == 2 ? 0 : i), i);
        }
        check.same("tide(1)", post.tide(1), 0);
        check.same("tide(29)", post.tide(29), 99);
        check.same("tide(30)", post.tide(30), 1);
        check.refuses("addTide(5), full", STATE, post, () -> post.addTide(5));
        check.refuses("addTide(100), full", ARGUMENT, post, () -> post.addTide(100));
        check.refuses("addTide(-1), full", ARGUMENT, post, () -> post.addTide(-1));
        post.beginTides(4);
        check.refuses("addTide(100)", ARGUMENT, post, () -> post.addTide(100));
        check.same("addTide(99) behind one", post.addTide(99), 2);
    }

    private static void promise4Tide() {
        CountedPost post = new CountedPost();
        check.same("tide(11)", post.tide(11), 12);
        check.same("tide(12)", post.tide(12), 10);
        check.same("tide(12 * 1000 + 6)", post.tide(12006), 95);
        check.same("tide(greatest)", post.tide(Integer.MAX_VALUE), 85);
        check.refuses("tide(-1)", ARGUMENT, post, () -> post.tide(-1));
        check.refuses("tide(least)", ARGUMENT, post, () -> post.tide(Integer.MIN_VALUE));
        post.pass(5);
        check.same("tide(0) at the hour 5", post.tide(0), 10);
    }

    private static void promise5AddBin() {
        CountedPost post = new CountedPost();
        check.refuses("addBin(-1, 1)", ARGUMENT, post, () -> post.addBin(-1, 1));
        check.refuses("addBin(100, 1)", ARGUMENT, post, () -> post.addBin(100, 1));
        check.refuses("addBin(0, 0)", ARGUMENT, post, () -> post.addBin(0, 0));
        check.refuses("addBin(0, 21)", ARGUMENT, post, () -> post.addBin(0, 21));
        check.same("addBin(0, 1)", post.addBin(0, 1), 0);
        check.same("addBin(99, 20)", post.addBin(99, 20), 1);
        check.rows("bin 0", binRow(post, 0), 0, 1, 0, 1, 0);
        check.rows("bin 1", binRow(post, 1), 99, 20, 0, 0, 0);
        for (int bin = 2; bin < 10; bin++) {
            check.same("addBin", post.addBin(50, 5), bin);
        }
        check.same("bins", post.count(1), 10);
        check.refuses("addBin(50, 5), full", STATE, post, () -> post.addBin(50, 5));
        check.refuses("addBin(50, 0), full", ARGUMENT, post, () -> post.addBin(50, 0));
    }

    private static void promise6SetCrew() {
        CountedPost post = new CountedPost();
        check.same("setCrew(0, 9)", post.setCrew(0, 9), 3);
        check.same("scrapers", post.count(11), 0);
        check.same("sorters", post.count(12), 9);
        check.same("setCrew(9, 0)", post.setCrew(9, 0), 9);
        check.same("scrapers", post.count(11), 9);
        check.same("sorters", post.count(12), 0);
        check.refuses("setCrew(-1, 0)", ARGUMENT, post, () -> post.setCrew(-1, 0));
        check.refuses("setCrew(10, 0)", ARGUMENT, post, () -> post.setCrew(10, 0));
        check.refuses("setCrew(0, -1)", ARGUMENT, post, () -> post.setCrew(0, -1));
        check.refuses("setCrew(0, 10)", ARGUMENT, post, () -> post.setCrew(0, 10));
        check.same("setCrew(4, 4)", post.setCrew(4, 4), 0);
    }

    private static void promise7AddDrowned() {
        CountedPost post = new CountedPost();
        check.refuses("addDrowned(-1, 0, 1)", ARGUMENT, post, () -> post.addDrowned(-1, 0, 1));
        check.refuses("addDrowned(100, 0, 1)", ARGUMENT, post, () -> post.addDrowned(100, 0, 1));
        check.refuses("addDrowned(0, -1, 1)", ARGUMENT, post, () -> post.addDrowned(0, -1, 1));
        check.refuses("addDrowned(0, 6, 1)", ARGUMENT, post, () -> post.addDrowned(0, 6, 1));
        check.refuses("addDrowned(0, 0, 0)", ARGUMENT, post, () -> post.addDrowned(0, 0, 0));
        check.refuses("addDrowned(0, 0, 61)", ARGUMENT, post, () -> post.addDrowned(0, 0, 61));
        check.same("addDrowned(0, 0, 1)", post.addDrowned(0, 0, 1), 0);
        check.same("addDrowned(99, 5, 60)", post.addDrowned(99, 5, 60), 1);
        check.rows("drowned 0", drownedRow(post, 0), 0, 0, 1, 0, 0);
        check.rows("drowned 1", drownedRow(post, 1), 99, 5, 60, 0, 0);
        for (int one = 2; one < 16; one++) {
            check.same("addDrowned", post.addDrowned(50, 2, 7), one);
        }
        check.same("drowned", post.count(2), 16);
        check.refuses("addDrowned, full", STATE, post, () -> post.addDrowned(50, 2, 7));
        check.refuses("addDrowned(50, 6, 7), full", ARGUMENT, post, () -> post.addDrowned(50, 6, 7));
    }

    private static void promise8Bring() {
        CountedPost post = new CountedPost();
        check.refuses("bring(0, 1, 1), nobody", INDEX, post, () -> post.bring(0, 1, 1));
        post.addDrowned(50, 1, 1);
        check.refuses("bring(-1, 0, 0)", INDEX, post, () -> post.bring(-1, 0, 0));
        check.refuses("bring(1, 0, 0)", INDEX, post, () -> post.bring(1, 0, 0));
        check.refuses("bring(0, 0, 1)", ARGUMENT, post, () -> post.bring(0, 0, 1));
        check.refuses("bring(0, 10, 1)", ARGUMENT, post, () -> post.bring(0, 10, 1));
        check.refuses("bring(0, 1, 0)", ARGUMENT, post, () -> post.bring(0, 1, 0));
        check.refuses("bring(0, 1, 61)", ARGUMENT, post, () -> post.bring(0, 1, 61));
        check.same("bring(0, 1, 60)", post.bring(0, 1, 60), 0);
        check.same("bring(0, 9, 1)", post.bring(0, 9, 1), 1);
        check.rows("letter 0", letterRow(post, 0), 0, 1, 60, 0, 0, -1, 0, 0, -1);
        check.rows("letter 1", letterRow(post, 1), 0, 9, 1, 0, 0, -1, 0, 0, -1);
        for (int letter = 2; letter < 150; letter++) {
            check.same("bring", post.bring(0, 3, 4), letter);
        }
        check.same("letters", post.count(3), 150);
        check.refuses("bring, full", STATE, post, () -> post.bring(0, 1, 1));
        check.refuses("bring(0, 0, 1), full", ARGUMENT, post, () -> post.bring(0, 0, 1));
        check.refuses("bring(1, 0, 1), full", INDEX, post, () -> post.bring(1, 0, 1));
    }

    private static void promise9TakeOut() {
        CountedPost post = still(10);
        post.addBin(20, 5);
        post.addBin(60, 5);
        post.addDrowned(20, 0, 1);
        post.addDrowned(60, 0, 1);
        post.bring(0, 3, 50);
        post.bring(1, 1, 50);
        check.refuses("takeOut(0) in the office", STATE, post, () -> post.takeOut(0));
        check.refuses("takeOut(-1)", INDEX, post, () -> post.takeOut(-1));
        check.refuses("takeOut(2)", INDEX, post, () -> post.takeOut(2));
        post.pass(1);
        post.setCrew(0, 0);
        post.beginTides(30);
        post.pass(2);
        check.rows("letter 0 held two hours", letterRow(post, 0), 0, 3, 50, 1, 4, 0, 2, 0, -1);
        check.refuses("takeOut(0) under water", STATE, post, () -> post.takeOut(0));
        check.same("takeOut(1) from the other bin", post.takeOut(1), 1);
        post.beginTides(20);
        check.same("takeOut(0) at a tide as high as the bin", post.takeOut(0), 0);
        check.rows("letter 0 taken out", letterRow(post, 0), 0, 3, 50, 0, 4, -1, 0, 0, -1);
        check.same("letters in bin 0", post.bin(0, 2), 0);
        check.same("barnacles in bin 0", post.bin(0, 4), 0);
        check.refuses("takeOut(0) again", STATE, post, () -> post.takeOut(0));
        post.setCrew(0, 1);
        post.pass(1);
        check.rows("letter 0 sorted again", letterRow(post, 0), 0, 3, 50, 1, 4, 0, 0, 0, -1);
        post.beginTides(30);
        check.same("pass(2) does not count the hours before", post.pass(2), 0);
        check.same("pass(1) is the third hour", post.pass(1), 1);
        check.refuses("takeOut(0) gone down", STATE, post, () -> post.takeOut(0));
        post.bring(0, 9, 1);
        post.pass(2);
        check.same("letter 2 is lost", post.letter(2, STATE_OF), 3);
        check.refuses("takeOut(2) lost", STATE, post, () -> post.takeOut(2));
    }

    private static void promise10Letter() {
        CountedPost post = still(60);
        check.refuses("letter(0, 0), no letter", INDEX, post, () -> post.letter(0, 0));
        post.addBin(50, 5);
        post.addDrowned(60, 1, 2);
        post.addDrowned(60, 1, 9);
        post.bring(1, 4, 33);
        check.refuses("letter(-1, 0)", INDEX, post, () -> post.letter(-1, 0));
        check.refuses("letter(1, 0)", INDEX, post, () -> post.letter(1, 0));
        check.refuses("letter(0, -1)", INDEX, post, () -> post.letter(0, -1));
        check.refuses("letter(0, 9)", INDEX, post, () -> post.letter(0, 9));
        check.rows("in the office", letterRow(post, 0), 1, 4, 33, 0, 0, -1, 0, 0, -1);
        post.pass(3);
        check.rows("in a bin", letterRow(post, 0), 1, 4, 33, 1, 4, 0, 2, 0, -1);
        post.pass(1);
        check.rows("gone down", letterRow(post, 0), 1, 4, 33, 2, 6, -1, 0, 0, -1);
        check.rows("the answer", letterRow(post, 1), 1, 4, 33, 4, 0, -1, 0, 9, 0);
        post.pass(9);
        check.rows("the answer waits for low water", letterRow(post, 1), 1, 4, 33, 4, 0, -1, 0, 0, 0);
        post.beginTides(0);
        post.pass(1);
        check.rows("the answer is here", letterRow(post, 1), 1, 4, 33, 5, 0, -1, 0, 0, 0);
        post.beginTides(60);
        post.bring(0, 9, 8);
        post.pass(3);
        check.rows("lost while held", letterRow(post, 2), 0, 9, 8, 3, 8, -1, 0, 0, -1);
    }

    private static void promise11Drowned() {
        CountedPost post = still(99);
        check.refuses("drowned(0, 0), nobody", INDEX, post, () -> post.drowned(0, 0));
        post.addBin(0, 20);
        post.addDrowned(12, 2, 34);
        post.addDrowned(99, 0, 5);
        check.refuses("drowned(-1, 0)", INDEX, post, () -> post.drowned(-1, 0));
        check.refuses("drowned(2, 0)", INDEX, post, () -> post.drowned(2, 0));
        check.refuses("drowned(0, -1)", INDEX, post, () -> post.drowned(0, -1));
        check.refuses("drowned(0, 5)", INDEX, post, () -> post.drowned(0, 5));
        post.setCrew(0, 9);
        for (int i = 0; i < 5; i++) {
            post.bring(0, 1, 60);
        }
        post.bring(1, 1, 60);
        post.pass(4);
        check.rows("drowned 0", drownedRow(post, 0), 12, 2, 34, 5, 2);
        check.rows("drowned 1, who never writes", drownedRow(post, 1), 99, 0, 5, 1, 0);
    }

    private static void promise12Bin() {
        CountedPost post = still(50);
        check.refuses("bin(0, 0), no bin", INDEX, post, () -> post.bin(0, 0));
        post.addBin(49, 3);
        post.addBin(50, 4);
        check.refuses("bin(-1, 0)", INDEX, post, () -> post.bin(-1, 0));
        check.refuses("bin(2, 0)", INDEX, post, () -> post.bin(2, 0));
        check.refuses("bin(0, -1)", INDEX, post, () -> post.bin(0, -1));
        check.refuses("bin(0, 5)", INDEX, post, () -> post.bin(0, 5));
        post.addDrowned(49, 0, 1);
        post.addDrowned(50, 0, 1);
        post.bring(0, 9, 60);
        post.bring(0, 1, 60);
        post.bring(1, 1, 60);
        post.pass(2);
        check.rows("bin 0", binRow(post, 0), 49, 3, 2, 1, 5);
        check.rows("bin 1", binRow(post, 1), 50, 4, 1, 0, 0);
        post.addTide(49);
        check.same("bin 0 at the tide 50 of the hour 2", post.bin(0, 3), 1);
        post.pass(1);
        check.same("bin 0 at the tide 49 of the hour 3", post.bin(0, 3), 0);
    }

    private static void promise13Pass() {
        CountedPost post = new CountedPost();
        check.refuses("pass(0)", ARGUMENT, post, () -> post.pass(0));
        check.refuses("pass(-1)", ARGUMENT, post, () -> post.pass(-1));
        check.refuses("pass(201)", ARGUMENT, post, () -> post.pass(201));
        check.same("pass(1)", post.pass(1), 0);
        check.same("pass(200)", post.pass(200), 0);
        check.same("the hour", post.count(0), 201);
        CountedPost still = still(80);
        still.addBin(70, 20);
        still.addDrowned(80, 0, 1);
        still.setCrew(0, 2);
        for (int i = 0; i < 6; i++) {
            still.bring(0, 1, 60);
        }
        check.same("pass(3)", still.pass(3), 0);
        check.same("pass(2)", still.pass(2), 4);
        check.same("pass(20)", still.pass(20), 2);
        check.same("pass(20) again", still.pass(20), 0);
    }

    private static void promise13Water() {
        CountedPost post = still(41);
        post.addBin(40, 20);
        post.addBin(41, 20);
        post.addDrowned(40, 0, 1);
        post.addDrowned(42, 0, 1);
        post.setCrew(0, 9);
        for (int weight = 1; weight <= 9; weight++) {
            post.bring(0, weight, 60);
        }
        post.pass(1);
        check.rows("no barnacles in the hour of sorting", column(post, GROWTH), 0, 0, 0, 0, 0, 0, 0, 0, 0);
        post.bring(1, 9, 60);
        post.pass(1);
        check.rows("barnacles by weight", column(post, GROWTH), 1, 1, 2, 2, 2, 3, 3, 3, 4, 0);
        post.pass(1);
        check.rows("not in a bin as high as the tide", column(post, GROWTH), 2, 2, 4, 4, 4, 6, 6, 6, 8, 0);
        check.rows("held at a tide higher than the drowned", column(post, HELD), 2, 2, 2, 2, 2, 2, 2, 2, 2, 0);

        CountedPost seals = still(99);
        seals.addBin(0, 20);
        seals.addDrowned(99, 1, 60);
        seals.setCrew(0, 9);
        seals.bring(0, 9, 4);
        seals.bring(0, 9, 5);
        seals.bring(0, 1, 3);
        seals.bring(0, 1, 4);
        seals.pass(2);
        check.rows("a seal breaks when they are as many", column(seals, STATE_OF), 3, 1, 1, 1);
        check.rows("barnacles of the lost stay", column(seals, GROWTH), 4, 4, 1, 1);
        seals.pass(1);
        check.rows("a seal of 5 breaks in the second hour", column(seals, STATE_OF), 3, 3, 1, 1);
        check.same("pass(1) with a loss before going down", seals.pass(1), 1);
        check.rows("lost in the hour of going down", column(seals, STATE_OF), 3, 3, 3, 2, 4);
        check.same("room is free again", seals.bin(0, 2), 0);
    }

    private static void promise13HeldInARow() {
        CountedPost post = still(50);
        post.addBin(40, 5);
        post.addDrowned(50, 0, 1);
        post.setCrew(0, 9);
        post.bring(0, 1, 60);
        post.pass(3);
        check.same("held for 2", post.letter(0, HELD), 2);
        post.beginTides(49);
        post.pass(1);
        check.same("held for 0 behind a tide lower than the drowned", post.letter(0, HELD), 0);
        check.same("barnacles grow there too", post.letter(0, GROWTH), 3);
        post.beginTides(50);
        post.pass(2);
        check.same("held for 2 again", post.letter(0, HELD), 2);
        post.beginTides(40);
        post.pass(1);
        check.same("held for 0 behind a dry hour", post.letter(0, HELD), 0);
        check.same("no barnacles in it", post.letter(0, GROWTH), 5);
        post.beginTides(50);
        check.same("pass(2)", post.pass(2), 0);
        check.same("pass(1)", post.pass(1), 1);

        CountedPost low = still(40);
        low.addBin(40, 5);
        low.addDrowned(0, 0, 1);
        low.bring(0, 1, 60);
        low.pass(10);
        check.same("not held in a dry bin above its drowned", low.letter(0, HELD), 0);
    }

    private static void promise13Answers() {
        CountedPost post = still(99);
        post.addBin(0, 20);
        post.addDrowned(10, 2, 5);
        post.addDrowned(20, 1, 7);
        post.addDrowned(30, 0, 3);
        post.setCrew(0, 9);
        int[] to = {0, 1, 0, 2, 1, 0, 0};
        for (int i = 0; i < to.length; i++) {
            post.bring(to[i], i + 1, 60 - i);
        }
        check.same("seven go down at once", post.pass(4), 7);
        check.rows("answers in the order of going down",
                Arrays.copyOfRange(column(post, ANSWERED), 7, post.count(3)), 1, 2, 4, 6);
        check.rows("answer 7", letterRow(post, 7), 1, 2, 59, 4, 0, -1, 0, 7, 1);
        check.rows("answer 8", letterRow(post, 8), 0, 3, 58, 4, 0, -1, 0, 5, 2);
        check.rows("answer 9", letterRow(post, 9), 1, 5, 56, 4, 0, -1, 0, 7, 4);
        check.rows("answer 10", letterRow(post, 10), 0, 7, 54, 4, 0, -1, 0, 5, 6);
        check.rows("drowned 0", drownedRow(post, 0), 10, 2, 5, 4, 2);
        check.rows("drowned 1", drownedRow(post, 1), 20, 1, 7, 2, 2);
        check.rows("drowned 2", drownedRow(post, 2), 30, 0, 3, 1, 0);

        CountedPost fifth = still(99);
        fifth.addBin(0, 20);
        fifth.addDrowned(0, 5, 1);
        fifth.setCrew(0, 9);
        for (int i = 0; i < 4; i++) {
            fifth.bring(0, 1, 60);
        }
        fifth.pass(4);
        check.same("no answer behind four letters", fifth.drowned(0, 4), 0);
        fifth.bring(0, 1, 60);
        fifth.pass(4);
        check.same("an answer behind the fifth", fifth.drowned(0, 4), 1);
        check.same("it answers the fifth", fifth.letter(5, ANSWERED), 4);
    }

    private static void promise13FullOfLetters() {
        CountedPost post = still(99);
        post.addBin(0, 20);
        post.addDrowned(0, 1, 1);
        post.addDrowned(0, 2, 1);
        post.setCrew(0, 3);
        post.bring(0, 9, 60);
        post.bring(1, 9, 60);
        post.bring(0, 9, 60);
        for (int letter = 3; letter < 149; letter++) {
            post.bring(0, 1, 60);
        }
        check.same("three go down", post.pass(4), 3);
        check.same("only one answer has a number left", post.count(3), 150);
        check.same("written", post.drowned(0, 4), 1);
        check.same("got", post.drowned(0, 3), 2);
        check.same("the last letter answers the first", post.letter(149, ANSWERED), 0);
        check.same("the others go down all the same", post.pass(200), 146);
        check.same("got by all", post.drowned(0, 3) + post.drowned(1, 3), 149);
        check.same("written, full", post.drowned(0, 4), 1);
        check.same("letters", post.count(3), 150);
        check.sameMean("barnacles(), full", post.barnacles(), 0.0);
        check.rows("bin 0, full", binRow(post, 0), 0, 20, 0, 1, 0);
        post.beginTides(0);
        check.same("foresee(1, 2), full", post.foresee(1, 2), 1);
        check.same("pass(1), full, dry", post.pass(1), 0);
        check.same("the answer is here", post.letter(149, STATE_OF), 5);
    }

    private static void promise13OnTheWay() {
        CountedPost post = still(31);
        post.addBin(30, 20);
        post.addDrowned(31, 1, 2);
        post.bring(0, 1, 60);
        post.pass(4);
        check.rows("no hour less in the hour of writing", letterRow(post, 1), 0, 1, 60, 4, 0, -1, 0, 2, 0);
        post.pass(1);
        check.same("one hour less", post.letter(1, BEFORE), 1);
        post.pass(5);
        check.same("none less than 0", post.letter(1, BEFORE), 0);
        check.same("it waits at the tide 31", post.letter(1, STATE_OF), 4);
        post.beginTides(30);
        post.pass(1);
        check.same("it is here at the tide 30", post.letter(1, STATE_OF), 5);

        CountedPost low = still(30);
        low.addBin(29, 20);
        low.addDrowned(30, 1, 1);
        low.addDrowned(30, 1, 2);
        low.bring(0, 1, 60);
        low.bring(1, 1, 60);
        low.pass(4);
        check.rows("both on their way", column(low, STATE_OF), 2, 2, 4, 4);
        low.pass(1);
        check.rows("here in the hour that takes the last one away", column(low, STATE_OF), 2, 2, 5, 4);
        low.pass(1);
        check.rows("both here", column(low, STATE_OF), 2, 2, 5, 5);
        low.pass(50);
        check.rows("they stay here", column(low, STATE_OF), 2, 2, 5, 5);
    }

    private static void promise13Scraping() {
        CountedPost post = still(10);
        post.addBin(50, 20);
        post.addDrowned(99, 0, 1);
        post.setCrew(0, 9);
        post.bring(0, 1, 60);
        post.bring(0, 6, 60);
        post.bring(0, 9, 60);
        post.pass(1);
        post.beginTides(60);
        post.setCrew(9, 9);
        post.pass(2);
        check.rows("no scraping under water", column(post, GROWTH), 2, 6, 8);
        post.beginTides(50);
        post.setCrew(1, 9);
        post.pass(1);
        check.rows("the most barnacles first", column(post, GROWTH), 2, 6, 6);
        post.pass(1);
        check.rows("of two the smaller number", column(post, GROWTH), 2, 4, 6);
        post.setCrew(2, 9);
        post.pass(1);
        check.rows("two scrapers", column(post, GROWTH), 2, 2, 4);
        post.setCrew(0, 9);
        post.pass(5);
        check.rows("nobody scrapes", column(post, GROWTH), 2, 2, 4);
        post.setCrew(9, 9);
        post.pass(1);
        check.rows("each letter once in an hour", column(post, GROWTH), 0, 0, 2);

        CountedPost odd = still(10);
        odd.addBin(20, 1);
        odd.addBin(50, 1);
        odd.addDrowned(99, 0, 1);
        odd.bring(0, 1, 60);
        odd.pass(1);
        check.same("in the bin 1", odd.letter(0, BIN), 1);
        odd.bring(0, 1, 60);
        odd.pass(1);
        check.same("in the bin 0", odd.letter(1, BIN), 0);
        odd.setCrew(0, 3);
        odd.beginTides(60);
        odd.pass(1);
        check.rows("one barnacle on each", column(odd, GROWTH), 1, 1);
        odd.setCrew(1, 3);
        odd.beginTides(40);
        odd.pass(1);
        check.rows("not less than 0, and the bin under water passed by", column(odd, GROWTH), 0, 2);
        odd.beginTides(10);
        odd.takeOut(1);
        odd.setCrew(9, 0);
        odd.pass(1);
        check.rows("no scraping in the office", column(odd, GROWTH), 0, 2);

        CountedPost again = still(60);
        again.addBin(50, 1);
        again.addDrowned(99, 0, 1);
        again.setCrew(9, 9);
        again.bring(0, 9, 60);
        again.pass(2);
        again.beginTides(0);
        again.pass(1);
        check.rows("scraped in one hour", column(again, GROWTH), 2);
        again.pass(1);
        check.rows("scraped in the next hour too", column(again, GROWTH), 0);
    }

    private static void promise13Sorting() {
        CountedPost post = still(0);
        post.addBin(60, 2);
        post.addBin(40, 1);
        post.addBin(40, 1);
        post.addBin(10, 1);
        post.addDrowned(50, 0, 1);
        post.addDrowned(11, 0, 1);
        int[] weights = {3, 9, 3, 5, 1, 2};
        for (int weight : weights) {
            post.bring(0, weight, 60);
        }
        post.bring(1, 1, 60);
        post.pass(1);
        check.rows("heaviest first, then numbers; the lower bin of two as near, then the smaller number",
                column(post, BIN), 0, 1, -1, 2, -1, -1, -1);
        post.pass(1);
        check.rows("the next nearest with room, until none has room",
                column(post, BIN), 0, 1, 0, 2, -1, 3, -1);
        check.rows("the rest stays in the office", column(post, STATE_OF), 1, 1, 1, 1, 0, 1, 0);
        post.addBin(99, 1);
        post.pass(1);
        check.rows("of the same weight the smaller number", column(post, BIN), 0, 1, 0, 2, 4, 3, -1);

        CountedPost wet = still(99);
        wet.addBin(10, 20);
        wet.addBin(90, 20);
        wet.addDrowned(49, 0, 1);
        wet.addDrowned(51, 0, 1);
        wet.setCrew(0, 0);
        wet.bring(0, 1, 60);
        wet.bring(1, 1, 60);
        wet.pass(3);
        check.rows("nobody sorts", column(wet, BIN), -1, -1);
        wet.setCrew(0, 9);
        wet.pass(1);
        check.rows("into bins under water too, the nearest from above or below", column(wet, BIN), 0, 1);
    }

    private static void promise14Count() {
        CountedPost post = still(99);
        check.refuses("count(-1)", INDEX, post, () -> post.count(-1));
        check.refuses("count(13)", INDEX, post, () -> post.count(13));
        check.refuses("count(greatest)", INDEX, post, () -> post.count(Integer.MAX_VALUE));
        post.addTide(99);
        post.addTide(99);
        post.addTide(99);
        post.addTide(20);
        post.addTide(99);
        post.addTide(99);
        post.addBin(0, 2);
        post.addBin(98, 1);
        post.addDrowned(0, 1, 1);
        post.addDrowned(0, 1, 60);
        post.addDrowned(99, 0, 1);
        post.setCrew(1, 5);
        post.bring(0, 9, 60);
        post.bring(1, 9, 60);
        post.bring(2, 8, 3);
        post.pass(4);
        post.bring(2, 7, 60);
        post.bring(2, 6, 60);
        post.bring(2, 5, 60);
        post.bring(2, 4, 60);
        post.pass(1);
        check.rows("counts", counts(post), 5, 2, 3, 9, 1, 3, 2, 1, 1, 1, 7, 1, 5);
    }

    private static void promise15BinFor() {
        CountedPost post = still(99);
        check.refuses("binFor(0), nobody", INDEX, post, () -> post.binFor(0));
        post.addDrowned(50, 0, 1);
        check.refuses("binFor(-1)", INDEX, post, () -> post.binFor(-1));
        check.refuses("binFor(1)", INDEX, post, () -> post.binFor(1));
        check.same("binFor(0) without bins", post.binFor(0), -1);
        int[] heights = {61, 60, 40, 40, 41};
        int[] due = {0, 1, 2, 2, 4};
        for (int bin = 0; bin < heights.length; bin++) {
            post.addBin(heights[bin], 1);
            check.same("binFor(0) with " + (bin + 1) + " bins", post.binFor(0), due[bin]);
        }
        post.setCrew(0, 1);
        int[] dueNext = {2, 3, 1};
        for (int next : dueNext) {
            post.bring(0, 1, 60);
            post.pass(1);
            check.same("binFor(0), the nearest full", post.binFor(0), next);
        }
        check.same("pass(1) frees the first bin", post.pass(1), 1);
        check.same("binFor(0), the first free again", post.binFor(0), 4);

        CountedPost full = still(0);
        full.addDrowned(50, 0, 1);
        full.addBin(0, 1);
        full.bring(0, 1, 60);
        full.pass(1);
        check.same("binFor(0), all full", full.binFor(0), -1);
        for (int bin = 1; bin < 10; bin++) {
            full.addBin(bin, 1);
            check.same("binFor(0) of " + (bin + 1) + " bins", full.binFor(0), bin);
        }
    }

    private static void promise16Foresee() {
        CountedPost post = still(99);
        check.refuses("foresee(0, 3)", ARGUMENT, post, () -> post.foresee(0, 3));
        check.refuses("foresee(101, -1)", ARGUMENT, post, () -> post.foresee(101, -1));
        check.refuses("foresee(1, 3)", INDEX, post, () -> post.foresee(1, 3));
        check.refuses("foresee(100, -1)", INDEX, post, () -> post.foresee(100, -1));
        check.same("foresee(100, 0) of nothing", post.foresee(100, 0), 0);
        post.addTide(99);
        post.addTide(99);
        post.addTide(99);
        post.addTide(30);
        post.addBin(0, 20);
        post.addDrowned(99, 1, 1);
        post.addDrowned(99, 1, 2);
        post.setCrew(0, 9);
        post.bring(0, 1, 60);
        post.bring(1, 1, 60);
        post.bring(1, 9, 8);
        post.bring(1, 9, 4);
        check.rows("foresee(1 to 10, 0)", foreseen(post, 0, 10), 0, 0, 0, 2, 2, 2, 2, 2, 2, 2);
        check.rows("foresee(1 to 10, 1)", foreseen(post, 1, 10), 0, 1, 2, 2, 2, 2, 2, 2, 2, 2);
        check.rows("foresee(1 to 10, 2)", foreseen(post, 2, 10), 0, 0, 0, 0, 1, 1, 1, 1, 1, 2);
        long before = post.digest();
        post.foresee(100, 0);
        check.same("digest behind foresee(100, 0)", post.digest(), before);
        post.pass(4);
        check.rows("foresee(1 to 6, 0) counts from now on", foreseen(post, 0, 6), 0, 0, 0, 0, 0, 0);
        check.rows("foresee(1 to 6, 1) counts from now on", foreseen(post, 1, 6), 0, 0, 0, 0, 0, 0);
        check.rows("foresee(1 to 6, 2)", foreseen(post, 2, 6), 1, 1, 1, 1, 1, 2);
        post.pass(1);
        check.rows("foresee(1 to 5, 2) counts from now on", foreseen(post, 2, 5), 0, 0, 0, 0, 1);
        post.beginTides(99);
        check.same("foresee(100, 2) with the table of now", post.foresee(100, 2), 0);
    }

    private static void promise16and17AheadAsItComes() {
        for (int hours = 1; hours <= 60; hours++) {
            CountedPost post = busy();
            int[] foreseen = {post.foresee(hours, 0), post.foresee(hours, 1), post.foresee(hours, 2)};
            int[] before = counts(post);
            int[] fates = new int[before[3]];
            for (int letter = 0; letter < fates.length; letter++) {
                fates[letter] = post.fate(letter, hours);
            }
            check.rows("counts behind looks ahead", counts(post), before);
            check.same("pass(" + hours + ")", post.pass(hours), foreseen[0]);
            int[] now = counts(post);
            check.rows("foreseen for " + hours + " hours", foreseen,
                    now[6] - before[6], now[7] - before[7], now[9] - before[9]);
            check.rows("fates for " + hours + " hours", fates, Arrays.copyOf(column(post, STATE_OF), fates.length));
        }
    }

    private static void promise17Fate() {
        CountedPost post = still(99);
        check.refuses("fate(0, 0), no letter", INDEX, post, () -> post.fate(0, 0));
        post.addBin(0, 20);
        post.addDrowned(99, 1, 3);
        post.bring(0, 1, 60);
        post.bring(0, 9, 4);
        check.refuses("fate(-1, 0)", INDEX, post, () -> post.fate(-1, 0));
        check.refuses("fate(2, 101)", INDEX, post, () -> post.fate(2, 101));
        check.refuses("fate(0, 0)", ARGUMENT, post, () -> post.fate(0, 0));
        check.refuses("fate(0, 101)", ARGUMENT, post, () -> post.fate(0, 101));
        long before = post.digest();
        check.rows("fates of letter 0", fates(post, 0, 5), 1, 1, 1, 2, 2);
        check.rows("fates of letter 1", fates(post, 1, 5), 1, 3, 3, 3, 3);
        check.same("fate(0, 100)", post.fate(0, 100), 2);
        check.same("digest behind fate", post.digest(), before);
        check.refuses("fate(2, 5) of an answer not yet written", INDEX, post, () -> post.fate(2, 5));
        post.pass(4);
        post.beginTides(0);
        check.rows("fates of the answer", fates(post, 2, 4), 4, 4, 5, 5);
        post.setCrew(0, 0);
        post.bring(0, 1, 60);
        check.same("fate(3, 100) in the office", post.fate(3, 100), 0);
    }

    private static void promise18Reaches() {
        CountedPost post = new CountedPost();
        check.refuses("reaches(0, 0), nobody", INDEX, post, () -> post.reaches(0, 0));
        post.addDrowned(40, 0, 1);
        check.refuses("reaches(0, 0), no bin", INDEX, post, () -> post.reaches(0, 0));
        post.addBin(30, 1);
        check.refuses("reaches(-1, 0)", INDEX, post, () -> post.reaches(-1, 0));
        check.refuses("reaches(1, 0)", INDEX, post, () -> post.reaches(1, 0));
        check.refuses("reaches(0, -1)", INDEX, post, () -> post.reaches(0, -1));
        check.refuses("reaches(0, 1)", INDEX, post, () -> post.reaches(0, 1));
        post.addDrowned(85, 0, 1);
        post.addDrowned(86, 0, 1);
        post.addBin(75, 1);
        post.addBin(85, 1);
        check.same("hours 3 to 5", post.reaches(0, 0), 5);
        check.same("tides 90, 95, 85, as high as the drowned", post.reaches(1, 0), 7);
        check.same("tides 90, 95 alone", post.reaches(2, 0), -1);
        check.same("tides over 75", post.reaches(0, 1), 7);
        check.same("tides over 85", post.reaches(0, 2), -1);
        post.pass(5);
        check.same("reaches(1, 0) at the hour 5", post.reaches(1, 0), 7);
        post.pass(1);
        check.same("reaches(0, 0) at the hour 6", post.reaches(0, 0), 8);
        check.same("reaches(1, 0) at the hour 6", post.reaches(1, 0), 19);

        CountedPost twoOfThree = still(99);
        twoOfThree.addTide(99);
        twoOfThree.addTide(0);
        twoOfThree.addBin(0, 1);
        twoOfThree.addDrowned(0, 0, 1);
        check.same("never three hours one behind the other", twoOfThree.reaches(0, 0), -1);
        CountedPost longest = longestTable();
        check.same("the longest table from its start", longest.reaches(0, 0), 29);
        longest.pass(28);
        check.same("the longest table from the middle of its flood", longest.reaches(0, 0), 59);
        CountedPost sealed = still(99);
        sealed.addBin(0, 1);
        sealed.addDrowned(0, 0, 1);
        sealed.bring(0, 9, 1);
        sealed.pass(1);
        check.same("neither barnacles nor room matter", sealed.reaches(0, 0), 3);
    }

    /** 30 heights, of which only the last three are high. */
    private static CountedPost longestTable() {
        CountedPost post = still(0);
        for (int hour = 1; hour < 30; hour++) {
            post.addTide(hour < 27 ? 0 : 99);
        }
        post.addBin(50, 1);
        post.addDrowned(99, 0, 1);
        return post;
    }

    private static void promise19Barnacles() {
        CountedPost post = still(99);
        check.sameMean("barnacles() of nothing", post.barnacles(), 0.0);
        post.addBin(0, 20);
        post.addBin(98, 20);
        post.addDrowned(0, 0, 1);
        post.addDrowned(99, 0, 1);
        post.setCrew(0, 9);
        post.bring(0, 1, 60);
        post.bring(0, 3, 60);
        post.bring(1, 9, 60);
        check.sameMean("barnacles() with letters in the office", post.barnacles(), 0.0);
        post.pass(1);
        check.sameMean("barnacles() without barnacles", post.barnacles(), 0.0);
        post.pass(1);
        check.sameMean("barnacles() in two bins", post.barnacles(), 7.0 / 3);
        post.beginTides(50);
        check.same("takeOut(2)", post.takeOut(2), 1);
        check.sameMean("barnacles() without the letter in the office", post.barnacles(), 1.5);
        post.beginTides(0);
        check.same("takeOut(0)", post.takeOut(0), 0);
        check.sameMean("barnacles() of one letter", post.barnacles(), 2.0);
        post.beginTides(50);
        post.setCrew(0, 0);
        check.same("pass(3)", post.pass(3), 1);
        check.sameMean("barnacles() of what has gone down", post.barnacles(), 0.0);
    }

    private static void promise20Digest() {
        check.same("digest() of a new object", new CountedPost().digest(), digestOf(new CountedPost()));
        for (int hours = 0; hours < 12; hours++) {
            CountedPost post = digested(hours);
            check.same("digest() at the hour " + hours, post.digest(), digestOf(post));
            check.same("digest() twice", post.digest(), post.digest());
        }
    }

    /** An office with something in each row, so many hours behind its beginning. */
    private static CountedPost digested(int hours) {
        CountedPost post = still(99);
        post.addTide(7);
        post.addTide(98);
        post.addTide(97);
        post.addTide(96);
        for (int i = 0; i < 4; i++) {
            post.addBin(i * 20, i + 1);
            post.addDrowned(90 - i * 9, i % 3, 4 + i);
        }
        for (int i = 0; i < 12; i++) {
            post.bring(i % 4, 1 + i % 9, 60 - 5 * i);
        }
        if (hours > 0) {
            post.pass(hours);
        }
        return post;
    }

    private static long digestOf(CountedPost post) {
        long d = digestBehind(479, counts(post));
        for (int hour = 0; hour < post.count(10); hour++) {
            d = digestBehind(d, post.tide(hour));
        }
        for (int bin = 0; bin < post.count(1); bin++) {
            d = digestBehind(d, binRow(post, bin));
        }
        for (int one = 0; one < post.count(2); one++) {
            d = digestBehind(d, drownedRow(post, one));
        }
        for (int letter = 0; letter < post.count(3); letter++) {
            d = digestBehind(d, letterRow(post, letter));
        }
        return d;
    }
}
