import java.io.IOException;
import java.nio.file.Files;
import java.nio.file.Path;
import java.util.List;
import java.util.Set;
import java.util.regex.Matcher;
import java.util.regex.Pattern;

/** The rules of LANGUAGE.md that can be read off the class's text; run in the project's own folder. */
public final class LanguageTest {
    private static final Set<String> LIBRARY = Set.of("Arrays.fill", "Arrays.copyOf", "Arrays.copyOfRange",
            "Math.min", "Math.max", "Math.abs", "System.arraycopy", "Integer.bitCount", "Long.bitCount");
    private static final List<String> LEFT_OUT = List.of("\\btry\\b", "\\bcatch\\b", "\\bthrow\\b", "\\bfinally\\b",
            "\\bsynchronized\\b", "\\bassert\\b", "->", "::", "Exact\\(", "\\bdouble\\b", "\\bprotected\\b",
            "\\bpackage\\b", "static \\{", "\\bvar\\b");
    private static int wrong;

    public static void main(String[] args) throws IOException {
        List<String> lines = Files.readAllLines(Path.of("src/main/java/ResidualJudge.java"));
        int classes = 0;
        int methodStart = -1;
        for (int i = 0; i < lines.size(); i++) {
            String code = lines.get(i).replaceAll("^\\s*(//|/?\\*).*", "");
            checkWords(i, code);
            checkLibrary(i, code);
            classes += code.matches(".*\\bclass \\w+ .*\\{") ? 1 : 0;
            boolean opens = code.matches(" {4}( {4})?[\\w\\[\\]<> ]+\\(.*\\) \\{");
            methodStart = opens ? i : methodStart;
            if (opens && code.replaceAll("[^,]", "").length() > 6) {
                tell(i, "more than seven parameters");
            }
            if (methodStart >= 0 && code.matches(" {4}( {4})?\\}")) {
                if (i - methodStart > 60) {
                    tell(methodStart, "a long method");
                }
                methodStart = -1;
            }
        }
        if (classes > 12) {
            tell(0, classes + " classes");
        }
        System.out.println("LanguageTest: " + wrong + " lines not as due");
        if (wrong != 0) {
            System.exit(1);
        }
    }

    private static void checkWords(int line, String code) {
        for (String word : LEFT_OUT) {
            if (Pattern.compile(word).matcher(code).find()) {
                tell(line, word);
            }
        }
        if (code.startsWith("import") && !code.equals("import java.util.Arrays;")) {
            tell(line, code);
        }
        if (code.matches(".*\\bstatic\\b.*[;=].*") && !code.matches(".*\\bstatic final\\b.*|.*\\(.*")) {
            tell(line, "static state");
        }
    }

    private static void checkLibrary(int line, String code) {
        Matcher call = Pattern.compile("\\b([A-Z][a-z]\\w*\\.\\w+)\\(").matcher(code);
        while (call.find()) {
            if (!LIBRARY.contains(call.group(1))) {
                tell(line, call.group(1));
            }
        }
    }

    private static void tell(int line, String what) {
        wrong++;
        System.out.println("line " + (line + 1) + ": " + what);
    }
}
