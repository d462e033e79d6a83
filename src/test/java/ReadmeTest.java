import java.io.IOException;
import java.lang.reflect.InvocationTargetException;
import java.lang.reflect.Method;
import java.nio.file.Files;
import java.nio.file.Path;
import java.util.ArrayList;
import java.util.HashMap;
import java.util.HashSet;
import java.util.List;
import java.util.Map;
import java.util.Set;
import java.util.regex.Matcher;
import java.util.regex.Pattern;

/** README.md: its calls are made and must answer what it shows, and it must tell the whole face. */
public final class ReadmeTest {
    private static final Path README = Path.of("README.md");
    private static final Path EXAMPLE = Path.of("src/test/java/Example.java");

    private static final String MADE = "DrownedPost post = new DrownedPost();";
    /** "int low = post.addBin(30, 2); // 0: the number of the bin", the part ahead of '=' and the colon may be missing. */
    private static final Pattern CALL = Pattern.compile(
            "(?:(\\w+) (\\w+) = )?post\\.(\\w+)\\(([^()]*)\\); +// (?:throws (\\w+)|(-?[0-9.]+))(?:: \\S.*)?");

    private static final Check check = new Check();

    public static void main(String[] args) throws IOException, IllegalAccessException {
        List<String> lines = Files.readAllLines(README);
        List<List<String>> java = blocks(lines, "java");
        exampleStandsAsItIs(String.join("\n", java.remove(0)));
        examplePrints(blocks(lines, "sh").get(0), blocks(lines, "text").get(0));
        new Story().tell(java);
        faceIsTold(lines);
        check.end("ReadmeTest");
    }

    private static List<List<String>> blocks(List<String> lines, String language) {
        List<List<String>> blocks = new ArrayList<>();
        List<String> open = null;
        for (String line : lines) {
            if (line.equals("```" + language)) {
                open = new ArrayList<>();
                blocks.add(open);
            } else if (line.startsWith("```")) {
                open = null;
            } else if (open != null) {
                open.add(line);
            }
        }
        return blocks;
    }

    // ---- the program that can be compiled

    private static void exampleStandsAsItIs(String shown) throws IOException {
        String source = Files.readString(EXAMPLE);
        int from = source.indexOf("public class ");
        check.holds("README.md shows " + EXAMPLE, from >= 0 && source.substring(from).equals(shown + "\n"));
    }

    /** The commands are run as they are shown, by a shell of their own. */
    private static void examplePrints(List<String> commands, List<String> shown) throws IOException {
        Process shell = new ProcessBuilder("sh", "-ec", String.join("\n", commands)).redirectErrorStream(true).start();
        shell.getOutputStream().close();
        String printed = new String(shell.getInputStream().readAllBytes());
        check.holds("Example prints " + shown + ", it printed " + printed, printed.lines().toList().equals(shown));
    }

    // ---- the calls with their answers

    /** The office that the blocks of Java tell of, one behind the other, and the names they have given to numbers. */
    private static final class Story {
        private final DrownedPost post = new DrownedPost();
        private final Map<String, Integer> names = new HashMap<>();
        private final Set<String> asked = new HashSet<>();
        private int calls;

        void tell(List<List<String>> blocks) throws IOException, IllegalAccessException {
            boolean made = false;
            for (List<String> block : blocks) {
                for (String line : block) {
                    if (!made) {
                        check.holds("the office is made first, not '" + line + "'", line.equals(MADE));
                        made = true;
                    } else {
                        make(line);
                    }
                }
            }
            for (Document.Call call : Document.calls()) {
                check.holds("a call of " + call.name + " with its answer", asked.contains(call.name));
            }
            check.holds("at most 512 calls of the office, " + calls, calls <= CountedPost.MOST_CALLS);
        }

        private void make(String line) throws IllegalAccessException {
            check.at(line);
            Matcher parts = CALL.matcher(line);
            check.holds("a call with its answer", parts.matches());
            if (!parts.matches()) {
                return;
            }
            String[] arguments = parts.group(4).isEmpty() ? new String[0] : parts.group(4).split(", ");
            Method method = method(parts.group(3), arguments.length);
            check.holds("a method of the face", method != null);
            if (method == null) {
                return;
            }
            calls++;
            String due = parts.group(5) != null ? "throws " + parts.group(5) : parts.group(6);
            String got = answer(method, arguments);
            check.holds("the answer, which is " + got, got.equals(due));
            if (parts.group(5) == null) {
                asked.add(method.getName());
            }
            if (parts.group(2) != null) {
                nameIs(parts.group(1), parts.group(2), method, got);
            }
        }

        private Method method(String name, int arguments) {
            for (Method method : DrownedPost.class.getMethods()) {
                if (method.getDeclaringClass() == DrownedPost.class && method.getName().equals(name)
                        && method.getParameterCount() == arguments) {
                    return method;
                }
            }
            return null;
        }

        private String answer(Method method, String[] arguments) throws IllegalAccessException {
            Object[] numbers = new Object[arguments.length];
            for (int i = 0; i < numbers.length; i++) {
                boolean named = !arguments[i].matches("-?\\d+");
                check.holds("the name " + arguments[i] + " stands ahead of it", !named || names.containsKey(arguments[i]));
                numbers[i] = named ? names.getOrDefault(arguments[i], 0) : Integer.valueOf(arguments[i]);
            }
            try {
                return String.valueOf(method.invoke(post, numbers));
            } catch (InvocationTargetException e) {
                return "throws " + e.getCause().getClass().getSimpleName();
            }
        }

        private void nameIs(String type, String name, Method method, String got) {
            check.holds("the type " + type, type.equals("int") && method.getReturnType() == int.class);
            check.holds("the name " + name + " is new", !names.containsKey(name));
            check.holds("the name " + name + " is given to a number", got.matches("-?\\d+"));
            if (got.matches("-?\\d+")) {
                names.put(name, Integer.valueOf(got));
            }
        }
    }

    // ---- the face

    private static void faceIsTold(List<String> lines) throws IOException {
        List<String> entries = entries(lines);
        List<Document.Call> calls = Document.calls();
        check.at(README.toString());
        check.same("the calls that are listed", entries.size(), calls.size());
        for (int i = 0; i < Math.min(entries.size(), calls.size()); i++) {
            Document.Call call = calls.get(i);
            String entry = entries.get(i);
            check.at(README + ", " + call.name);
            check.holds("the entry of this call at its place, not '" + entry + "'",
                    entry.startsWith("- `" + call.signature + "` "));
            String refusals = call.refusals.isEmpty() ? "" : " Throws " + String.join("; ", call.refusals) + ".";
            check.holds("the exceptions with their reasons:" + refusals,
                    entry.endsWith(refusals) && entry.contains("Throws ") == !refusals.isEmpty());
            for (String numbers : call.numbers) {
                check.holds("the words '" + numbers + "'", entry.contains(": " + numbers + "."));
            }
        }
    }

    /** The list's entries that begin with a method, each as one line. */
    private static List<String> entries(List<String> lines) {
        List<String> entries = new ArrayList<>();
        StringBuilder open = null;
        for (String line : lines) {
            if (open != null && line.startsWith("  ")) {
                open.append(' ').append(line.trim());
                continue;
            }
            if (open != null) {
                entries.add(open.toString());
            }
            open = line.matches("- `\\w+ \\w+\\(.*") ? new StringBuilder(line) : null;
        }
        return entries;
    }
}
