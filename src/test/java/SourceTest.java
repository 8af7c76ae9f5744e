import java.io.IOException;
import java.nio.charset.StandardCharsets;
import java.nio.file.Files;
import java.nio.file.Path;
import java.util.List;
import java.util.regex.Matcher;
import java.util.regex.Pattern;

/** Rules of LANGUAGE.md that the text of the class shows: what stands in it nowhere, how long and how wide its methods are. */
public final class SourceTest {
    private static final List<String> IMPORTS = List.of("import java.util.ArrayList;", "import java.util.Arrays;",
            "import java.util.Iterator;", "import java.util.List;", "import java.util.NoSuchElementException;");
    // Rule 6 would let a catch stand, but the class has no need of one.
    private static final String[] NOWHERE = {"->", "::", "\\bsynchronized\\b", "\\bassert\\b", "\\bfinally\\b", "\\bcatch\\b",
        "\\bpackage\\b", "\\bthread\\b", "\\bThread\\b", "\\bRandom\\b", "\\brandom\\b", "\\bnanoTime\\b", "\\bcurrentTime",
        "getMessage", "printStackTrace", "System\\.(?!arraycopy)", "Exact\\(", "String\\.format", "\\+ \"", "\" \\+",
        "\\bhashCode\\b", "\\btoString\\b", "\\bprotected\\b", "\\bvar\\b", "\\bnew Object\\b", "\\bHashMap\\b", "\\bMap\\b"};
    private static final Pattern LOOSE_STATIC = Pattern.compile("static (?!final\\b|class\\b)[\\w\\[\\]]+ \\w+ *[=;]");
    private static final Pattern METHOD = Pattern.compile("^ +(?!return|else|new|throw)[\\w\\[\\] ]*\\b\\w+\\(([^()]*)\\)[^;]*\\{$");

    private SourceTest() {
    }

    public static void main(String[] args) throws IOException {
        Path path = Path.of("src/main/java/BucketTube.java");
        byte[] bytes = Files.readAllBytes(path);
        for (byte b : bytes) {
            if (b < 0) {
                Due.due("a sign beyond 127", 0, b);
            }
        }
        String[] lines = new String(bytes, StandardCharsets.ISO_8859_1).split("\n");
        int blocks = 0;
        int methods = 0;
        for (int i = 0; i < lines.length; i++) {
            String line = lines[i].replaceFirst("^ *(//|/?\\*).*", "").replaceFirst(" // .*", "");
            for (String never : NOWHERE) {
                Due.due("line " + (i + 1) + " has " + never, 0, Pattern.compile(never).matcher(line).find() ? 1 : 0);
            }
            if (line.startsWith("import")) {
                Due.due("import: " + line, 1, IMPORTS.contains(line) ? 1 : 0);
            }
            Due.due("static and not final, line " + (i + 1), 0, LOOSE_STATIC.matcher(line).find() ? 1 : 0);
            blocks += line.matches(" *static \\{") ? 1 : 0;
            methods += method(lines, i) ? 1 : 0;
        }
        Due.due("methods are found", 1, methods > 100 ? 1 : 0);
        Due.due("static blocks", 0, blocks);
        Due.end();
    }

    private static boolean method(String[] lines, int at) {
        Matcher head = METHOD.matcher(lines[at]);
        if (!head.matches() || lines[at].matches(" *(\\} )?(if|for|while|switch|else|do)\\b.*")) {
            return false;
        }
        int parameters = head.group(1).isBlank() ? 0 : head.group(1).split(",").length;
        Due.due("parameters, line " + (at + 1), 1, parameters <= 7 ? 1 : 0);
        String indent = lines[at].replaceFirst("\\S.*", "");
        int end = at + 1;
        while (end < lines.length && !lines[end].equals(indent + "}")) {
            end++;
        }
        Due.due("lines of the method at " + (at + 1), 1, end - at < 60 ? 1 : 0);
        return true;
    }
}
