import java.io.IOException;
import java.lang.reflect.Constructor;
import java.lang.reflect.Field;
import java.lang.reflect.Method;
import java.lang.reflect.Modifier;
import java.nio.file.Files;
import java.nio.file.Path;
import java.util.ArrayList;
import java.util.Arrays;
import java.util.List;
import java.util.Set;
import java.util.TreeSet;
import java.util.regex.Matcher;
import java.util.regex.Pattern;
import java.util.stream.Collectors;

/** The public face of the document, and the rules of ../shared/LANGUAGE.md that can be read off. */
public final class FaceTest {
    private static final String A = "IllegalArgumentException";
    private static final String S = "IllegalStateException";
    private static final String I = "IndexOutOfBoundsException";

    private static final List<String> FACE = List.of(
            face("int", "beginTides", 1, A),
            face("int", "addTide", 1, A, S),
            face("int", "tide", 1, A),
            face("int", "addBin", 2, A, S),
            face("int", "setCrew", 2, A),
            face("int", "addDrowned", 3, A, S),
            face("int", "bring", 3, I, A, S),
            face("int", "takeOut", 1, I, S),
            face("int", "letter", 2, I),
            face("int", "drowned", 2, I),
            face("int", "bin", 2, I),
            face("int", "pass", 1, A),
            face("int", "count", 1, I),
            face("int", "binFor", 1, I),
            face("int", "foresee", 2, A, I),
            face("int", "fate", 2, I, A),
            face("int", "reaches", 2, I),
            face("double", "barnacles", 0),
            face("long", "digest", 0));

    private static final Check check = new Check();

    public static void main(String[] args) throws IOException {
        faceIsThatOfTheDocument();
        classesInsideKeepToTheirRules();
        List<String> source = Files.readAllLines(Path.of("src/main/java/DrownedPost.java"));
        declarationsAreThoseOfTheDocument(source);
        interfaceSaysWhatComes(source);
        sourceKeepsToTheLanguage(source);
        sourceKeepsToTheLibrary(source);
        methodsStayShort(source);
        check.end("FaceTest");
    }

    private static String face(String answer, String name, int ints, String... exceptions) {
        return answer + " " + name + "(" + "int ".repeat(ints).trim() + ") " + String.join(" ", exceptions);
    }

    private static String face(Method method) {
        check.holds(method + " takes whole numbers alone",
                Arrays.stream(method.getParameterTypes()).allMatch(type -> type == int.class));
        return face(method.getReturnType().toString(), method.getName(), method.getParameterCount(),
                Arrays.stream(method.getExceptionTypes()).map(Class::getSimpleName).toArray(String[]::new));
    }

    private static void faceIsThatOfTheDocument() {
        Class<?> office = DrownedPost.class;
        check.holds("public and final", Modifier.isPublic(office.getModifiers()) && Modifier.isFinal(office.getModifiers()));
        check.holds("no package", office.getPackageName().isEmpty());
        Constructor<?>[] constructors = office.getDeclaredConstructors();
        check.same("constructors", constructors.length, 1);
        check.holds("a public constructor without arguments",
                Modifier.isPublic(constructors[0].getModifiers()) && constructors[0].getParameterCount() == 0);
        Set<String> open = Arrays.stream(office.getDeclaredMethods())
                .filter(method -> !Modifier.isPrivate(method.getModifiers()))
                .peek(method -> check.holds(method + " is public", Modifier.isPublic(method.getModifiers())))
                .map(FaceTest::face).collect(Collectors.toCollection(TreeSet::new));
        check.holds("the methods " + open, open.equals(new TreeSet<>(FACE)));
        for (Field field : office.getDeclaredFields()) {
            check.holds(field + " is private", Modifier.isPrivate(field.getModifiers()));
            check.holds(field + " is final", Modifier.isFinal(field.getModifiers()));
        }
    }

    private static void classesInsideKeepToTheirRules() {
        Set<String> names = Arrays.stream(DrownedPost.class.getDeclaredMethods())
                .filter(method -> Modifier.isPublic(method.getModifiers()))
                .map(Method::getName).collect(Collectors.toSet());
        check.holds("at most twelve classes", DrownedPost.class.getDeclaredClasses().length < 12);
        for (Class<?> inside : DrownedPost.class.getDeclaredClasses()) {
            int modifiers = inside.getModifiers();
            check.holds(inside + " is static and not open", Modifier.isStatic(modifiers)
                    && !Modifier.isPublic(modifiers) && !Modifier.isProtected(modifiers));
            for (Method method : inside.getDeclaredMethods()) {
                check.holds(method + " bears no name of the face", !names.contains(method.getName()));
                check.holds(method + " takes at most seven", method.getParameterCount() <= 7);
            }
            check.holds(inside + " has at most twenty fields", inside.getDeclaredFields().length <= 20);
            for (Field field : inside.getDeclaredFields()) {
                check.holds(field + " is not static", !Modifier.isStatic(field.getModifiers()));
            }
        }
    }

    /** Word by word, the parameters' names and the exceptions' order with them. */
    private static void declarationsAreThoseOfTheDocument(List<String> lines) throws IOException {
        List<String> declared = new ArrayList<>();
        StringBuilder open = null;
        for (String line : lines) {
            if (line.startsWith("    public ")) {
                open = new StringBuilder();
            }
            if (open != null) {
                open.append(' ').append(line.trim());
                if (line.endsWith(" {")) {
                    declared.add(open.substring(1, open.length() - 2));
                    open = null;
                }
            }
        }
        List<String> due = Document.declarations();
        check.same("declarations in the document", due.size(), 20);
        check.holds("the declarations " + declared, declared.equals(due));
    }

    /** 'Ahead of the calls .. the interface says: ----' and what it says. */
    private static void interfaceSaysWhatComes(List<String> lines) {
        String[] order = {"// ---- the quay", "beginTides", "addTide", "tide", "addBin", "setCrew",
            "// ---- the drowned and their letters", "addDrowned", "bring", "takeOut", "letter", "drowned", "bin",
            "// ---- hours", "pass", "count", "binFor",
            "// ---- looking ahead", "foresee", "fate", "reaches", "barnacles", "digest"};
        int at = 0;
        for (String next : order) {
            while (at < lines.size() && !tells(lines.get(at).trim(), next)) {
                at++;
            }
            check.holds("the source tells " + next + " in the order of the document", at < lines.size());
        }
    }

    private static boolean tells(String line, String next) {
        return line.equals(next) || line.startsWith("public ") && line.contains(" " + next + "(");
    }

    private static void sourceKeepsToTheLanguage(List<String> lines) {
        String[] strangers = {"import ", "package ", "->", "::", "try ", "catch ", "finally", "assert ", "synchronized",
            "instanceof", "while ", "do {", "List", "equals", "hashCode", "toString", "System.out", "Random", "Thread"};
        for (int i = 0; i < lines.size(); i++) {
            String line = lines.get(i);
            for (String stranger : strangers) {
                check.holds("line " + (i + 1) + " without " + stranger, !line.contains(stranger));
            }
            check.holds("line " + (i + 1) + " is made of signs 1 to 127", line.chars().allMatch(c -> c < 128));
            // Beside exceptions all objects are made with the office itself, so that calls fill no room.
            check.holds("line " + (i + 1) + " makes no object in a call", !line.contains("new ")
                    || line.contains("throw new ") || line.contains(" = new ") || line.trim().startsWith("/**"));
        }
    }

    /** The static functions that the source calls are some of those that rule 4 lists. */
    private static void sourceKeepsToTheLibrary(List<String> lines) {
        Set<String> listed = Set.of("Math.abs", "Math.max", "Math.floorMod", "System.arraycopy");
        Matcher function = Pattern.compile("\\b[A-Z][A-Za-z]*\\.[a-z]\\w*(?=\\()").matcher(String.join("\n", lines));
        while (function.find()) {
            check.holds(function.group() + " is listed", listed.contains(function.group()));
        }
    }

    /** A block ends with the first brace that stands no further to the right than its first line. */
    private static void methodsStayShort(List<String> lines) {
        for (int first = 0; first < lines.size(); first++) {
            String line = lines.get(first);
            if (line.endsWith(") {") || line.endsWith("Exception {")) {
                int last = first + 1;
                while (last < lines.size() && !(lines.get(last).contains("}") && indent(lines.get(last)) <= indent(line))) {
                    last++;
                }
                check.holds("the block from line " + (first + 1) + " on has at most 60 lines", last - first < 60);
            }
        }
    }

    private static int indent(String line) {
        return line.length() - line.stripLeading().length();
    }
}
