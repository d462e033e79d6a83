import java.io.IOException;
import java.lang.reflect.InvocationTargetException;
import java.lang.reflect.Method;
import java.nio.file.Files;
import java.util.ArrayList;
import java.util.Arrays;
import java.util.Comparator;
import java.util.LinkedHashMap;
import java.util.List;
import java.util.Map;

/**
 * Runs each test that bears the words of a sentence of the document, and holds the words against the document
 * itself: no test may quote what does not stand there, and no sentence there may be without a test.
 */
public final class SentencesTest {
    private static final List<Class<?>> TESTS = List.of(TermsSentences.class, HourSentences.class, QuaySentences.class,
            LetterSentences.class, PassSentences.class, AheadSentences.class, RefusalSentences.class);

    /** Headings of paragraphs and of steps, which promise nothing by themselves. */
    private static final List<String> HEADINGS = List.of("Tides.", "Bins.", "The drowned.", "Letters.");

    private static final Check check = new Check();

    public static void main(String[] args) throws IOException, IllegalAccessException {
        Map<String, List<Line>> document = read(Files.readAllLines(Document.PATH));
        int tests = 0;
        for (Class<?> group : TESTS) {
            for (Method test : testsOf(group)) {
                run(test);
                markWords(document, test);
                tests++;
            }
        }
        check.at(Document.PATH.toString());
        document.forEach((place, lines) -> lines.forEach(line -> tellUntested(place, line)));
        System.out.println("  SentencesTest: " + tests + " tests of sentences");
        check.end("SentencesTest");
    }

    private static List<Method> testsOf(Class<?> group) {
        List<Method> tests = new ArrayList<>();
        for (Method method : group.getDeclaredMethods()) {
            if (method.isAnnotationPresent(Sentence.class)) {
                tests.add(method);
            }
        }
        tests.sort(Comparator.comparing(Method::getName));
        check.holds(group + " has tests", !tests.isEmpty());
        return tests;
    }

    private static void run(Method test) throws IllegalAccessException {
        Sentence sentence = test.getAnnotation(Sentence.class);
        check.at(sentence.in() + ", '" + String.join(" .. ", sentence.words()) + "', " + test.getName());
        int before = check.answers();
        try {
            test.invoke(null, check);
        } catch (InvocationTargetException e) {
            check.fail("ended with " + e.getCause());
        }
        check.holds("at least one answer asked for", check.answers() > before);
    }

    // ---- the document

    /** One line of the document, and which of its signs the words of some test cover. */
    private static final class Line {
        final String text;
        final boolean[] tested;

        Line(String text) {
            this.text = text;
            this.tested = new boolean[text.length()];
        }

        void mark(int from, int length) {
            Arrays.fill(tested, from, from + length, true);
        }
    }

    /** What the document tells under each heading, the face beside it, which FaceTest looks at. */
    private static Map<String, List<Line>> read(List<String> lines) {
        Map<String, List<Line>> document = new LinkedHashMap<>();
        List<Line> place = new ArrayList<>();
        for (String line : lines) {
            if (line.startsWith("## ")) {
                place = new ArrayList<>();
                document.put(line.substring(3).replaceFirst("^(Promise \\d+):.*", "$1"), place);
            } else if (isToBeTested(withoutSignature(line))) {
                place.add(new Line(withoutSignature(line)));
            }
        }
        document.remove("The public face");
        document.remove("Not promised");
        return document;
    }

    /** A parameter's line is left out if it only names the parameter; limits and 'what' have numbers. */
    private static boolean isToBeTested(String line) {
        boolean namesOnly = line.startsWith("- `") && !line.matches(".*\\d.*");
        return !line.isBlank() && !line.startsWith("# ") && !line.startsWith("```") && !namesOnly
                && !line.startsWith("Ahead of the calls ");
    }

    private static String withoutSignature(String line) {
        return line.replaceFirst("^`[^`]*\\([^`]*\\)[^`]*`: ", "");
    }

    private static void markWords(Map<String, List<Line>> document, Method test) {
        Sentence sentence = test.getAnnotation(Sentence.class);
        List<Line> lines = document.getOrDefault(sentence.in(), List.of());
        for (String words : sentence.words()) {
            boolean found = false;
            for (Line line : lines) {
                int at = line.text.indexOf(words);
                if (at >= 0) {
                    found = true;
                    line.mark(at, words.length());
                }
            }
            check.holds("the words '" + words + "' stand in the document under '" + sentence.in() + "'", found);
        }
    }

    private static void tellUntested(String place, Line line) {
        for (String heading : HEADINGS) {
            if (line.text.startsWith(heading)) {
                line.mark(0, heading.length());
            }
        }
        StringBuilder untested = new StringBuilder();
        for (int i = 0; i < line.text.length(); i++) {
            if (!line.tested[i] && Character.isLetterOrDigit(line.text.charAt(i))) {
                untested.append(line.text.charAt(i));
            } else if (untested.length() > 0 && untested.charAt(untested.length() - 1) != ' ') {
                untested.append(' ');
            }
        }
        check.holds("a test of each word under '" + place + "' (without one: " + untested + ")",
                untested.toString().isBlank());
    }
}
