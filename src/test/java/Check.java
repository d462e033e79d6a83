import java.util.Arrays;

/** Compares answers with those that are due, and ends the test program with 1 if one was wrong. */
final class Check {
    private int right;
    private int wrong;
    private String place = "";

    /** What stands before each fault that is told from here on. */
    void at(String newPlace) {
        place = newPlace + ": ";
    }

    int answers() {
        return right + wrong;
    }

    void same(String what, long got, long due) {
        if (got == due) {
            right++;
        } else {
            fail(what + " answered " + got + ", due is " + due);
        }
    }

    void sameMean(String what, double got, double due) {
        if (got == due) {
            right++;
        } else {
            fail(what + " answered " + got + ", due is " + due);
        }
    }

    void rows(String what, int[] got, int... due) {
        if (Arrays.equals(got, due)) {
            right++;
        } else {
            fail(what + " answered " + Arrays.toString(got) + ", due is " + Arrays.toString(due));
        }
    }

    void holds(String what, boolean holds) {
        if (holds) {
            right++;
        } else {
            fail(what + " does not hold");
        }
    }

    /** The call must throw exactly this exception by itself, and leave the object as it was. */
    void refuses(String what, Class<? extends RuntimeException> due, CountedPost post, Runnable call) {
        long before = post.digest();
        Class<?> got = null;
        try {
            call.run();
        } catch (RuntimeException e) {
            got = e.getClass();
        }
        if (got == due && post.digest() == before) {
            right++;
        } else {
            fail(what + " threw " + got + ", due is " + due + "; digest " + before + " became " + post.digest());
        }
    }

    void fail(String text) {
        wrong++;
        System.out.println("  wrong: " + place + text);
    }

    void end(String name) {
        System.out.println("  " + name + ": " + right + " answers right, " + wrong + " wrong");
        if (wrong != 0 || right == 0) {
            System.exit(1);
        }
    }
}
