import java.io.IOException;
import java.nio.file.Files;
import java.nio.file.Path;
import java.util.ArrayList;
import java.util.List;

/** What ../shared/DOC.md tells of the face: its declarations in its code block, and each promise's own words. */
final class Document {
    static final Path PATH = Path.of("../shared/DOC.md");

    /** One method of the face. */
    static final class Call {
        /** The declaration without its exceptions, "int addTide(int height)". */
        final String signature;
        final String name;
        /** The exceptions with their reasons, "`IllegalStateException` if there are 30", in their order. */
        final List<String> refusals = new ArrayList<>();
        /** What the numbers of an argument stand for, "0 to whom (from whom) it is, 1 its weight, ..". */
        final List<String> numbers = new ArrayList<>();

        Call(String declaration) {
            signature = declaration.replaceFirst("^public ", "").replaceFirst(" throws .*$", "");
            name = signature.replaceFirst("\\(.*$", "").replaceFirst("^.* ", "");
        }
    }

    private Document() {
    }

    /** The declarations in the document's code block, the constructor with them, without their semicolons. */
    static List<String> declarations() throws IOException {
        List<String> declarations = new ArrayList<>();
        for (String line : Files.readAllLines(PATH)) {
            if (line.startsWith("    public ") && line.endsWith(";")) {
                declarations.add(line.substring(4, line.length() - 1));
            }
        }
        return declarations;
    }

    /** The methods in the order of the code block, each with what its promise says. */
    static List<Call> calls() throws IOException {
        List<Call> calls = new ArrayList<>();
        for (String declaration : declarations()) {
            if (!declaration.equals("public DrownedPost()")) {
                calls.add(new Call(declaration));
            }
        }
        Call open = null;
        for (String line : Files.readAllLines(PATH)) {
            if (line.startsWith("## ")) {
                open = named(calls, line.replaceFirst("^## Promise \\d+: ", ""));
            } else if (open != null && line.startsWith("Throws ")) {
                open.refusals.add(line.substring("Throws ".length()));
            } else if (open != null && line.matches("- `what`: 0 .*")) {
                open.numbers.add(line.substring("- `what`: ".length()));
            }
        }
        return calls;
    }

    private static Call named(List<Call> calls, String name) {
        for (Call call : calls) {
            if (call.name.equals(name)) {
                return call;
            }
        }
        return null;
    }
}
