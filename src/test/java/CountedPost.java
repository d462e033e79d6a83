/** The program behind a counter of calls: behind the 512th nothing is promised, so no test may ask for more. */
final class CountedPost {
    static final int MOST_CALLS = 512;

    private final DrownedPost post = new DrownedPost();
    private int calls;

    int callsLeft() {
        return MOST_CALLS - calls;
    }

    private DrownedPost next() {
        calls++;
        if (calls > MOST_CALLS) {
            throw new AssertionError("the test asks for a call behind the 512th");
        }
        return post;
    }

    int beginTides(int height) {
        return next().beginTides(height);
    }

    int addTide(int height) {
        return next().addTide(height);
    }

    int tide(int hour) {
        return next().tide(hour);
    }

    int addBin(int height, int room) {
        return next().addBin(height, room);
    }

    int setCrew(int scrapers, int sorters) {
        return next().setCrew(scrapers, sorters);
    }

    int addDrowned(int height, int n, int lag) {
        return next().addDrowned(height, n, lag);
    }

    int bring(int to, int weight, int seal) {
        return next().bring(to, weight, seal);
    }

    int takeOut(int letter) {
        return next().takeOut(letter);
    }

    int letter(int letter, int what) {
        return next().letter(letter, what);
    }

    int drowned(int one, int what) {
        return next().drowned(one, what);
    }

    int bin(int bin, int what) {
        return next().bin(bin, what);
    }

    int pass(int hours) {
        return next().pass(hours);
    }

    int count(int what) {
        return next().count(what);
    }

    int binFor(int one) {
        return next().binFor(one);
    }

    int foresee(int hours, int what) {
        return next().foresee(hours, what);
    }

    int fate(int letter, int hours) {
        return next().fate(letter, hours);
    }

    int reaches(int one, int bin) {
        return next().reaches(one, bin);
    }

    double barnacles() {
        return next().barnacles();
    }

    long digest() {
        return next().digest();
    }
}
