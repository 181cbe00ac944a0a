import java.io.IOException;
import java.nio.file.Files;
import java.nio.file.Path;
import java.util.ArrayList;
import java.util.LinkedHashMap;
import java.util.LinkedHashSet;
import java.util.List;
import java.util.Map;
import java.util.Set;

/**
 * The document's sentences as tests. A test begins with says(..), which names its sentence in the document's own
 * words; what is found wrong until the next says(..) breaks that sentence.
 */
final class Sentences {
    private static final Path DOCUMENT = Path.of("../shared/DOC.md");

    private final Map<String, List<String>> quoted = new LinkedHashMap<>();
    private final Set<String> named = new LinkedHashSet<>();
    private final Set<String> broken = new LinkedHashSet<>();
    private String sentence;
    private int checksOfIt;
    private int checks;

    // ---- tests

    void says(String section, String words) {
        endTest();
        sentence = section + ": " + words;
        checksOfIt = 0;
        named.add(sentence);
        quoted.computeIfAbsent(section, key -> new ArrayList<>()).add(words);
    }

    void due(String call, long got, long want) {
        checks++;
        checksOfIt++;
        if (got != want) {
            breaks(call + " answered " + got + ", due is " + want);
        }
    }

    /** A sentence that nothing was asked of is not tested. */
    void endTest() {
        if (sentence != null && checksOfIt == 0) {
            breaks("nothing was asked");
        }
        sentence = null;
    }

    private void breaks(String how) {
        broken.add(sentence);
        System.out.println("\"" + sentence + "\" does not hold: " + how);
    }

    Set<String> broken() {
        return broken;
    }

    Set<String> named() {
        return named;
    }

    String summary() {
        return named.size() + " sentences with " + checks + " answers, " + broken.size() + " broken";
    }

    // ---- calls that most tests make

    static void write(ResidualJudge x, String text) {
        x.clear();
        for (int i = 0; i < text.length(); i++) {
            x.type(text.charAt(i));
        }
    }

    static int read(ResidualJudge x, String text) {
        write(x, text);
        return x.reads();
    }

    /** A new object that has read these ORDERS. */
    ResidualJudge of(String orders) {
        ResidualJudge x = new ResidualJudge();
        int answer = read(x, orders);
        if (answer <= 0) {
            breaks("reads of '" + orders + "' answered " + answer);
        }
        return x;
    }

    void reads(String text, int want) {
        due("reads of '" + text + "'", read(new ResidualJudge(), text), want);
    }

    /** The FAULT of a text as ORDERS. */
    void readsFault(String text, int place) {
        reads(text, -10 - place);
    }

    /** rows(8, 0), rows(8, 1) and so on, for THE BOOK's PATTERN. */
    void counts(String pattern, int... want) {
        ResidualJudge x = of("^=" + pattern + ";");
        for (int n = 0; n < want.length; n++) {
            due("rows(8, " + n + ") of " + pattern, x.rows(8, n), want[n]);
        }
    }

    /** Whether THE BOOK's PATTERN allows a ROW, by STEPS and by a BOOK of it. */
    void allows(String pattern, String row, boolean want) {
        ResidualJudge x = of("^=" + pattern + ";");
        boolean stands = true;
        for (int i = 0; i < row.length() && stands; i++) {
            stands = x.steps(row.charAt(i) - 'a') >= 0;
        }
        due("row " + row + " in " + pattern, stands && x.now(1) == 1 ? 1 : 0, want ? 1 : 0);
        write(x, row);
        due("book " + row + " by " + pattern, x.judge(0), want ? 1 : 0);
    }

    /** judge(0), judge(1) and so on. */
    void judged(String orders, String book, int... want) {
        ResidualJudge x = of(orders);
        write(x, book);
        for (int what = 0; what < want.length; what++) {
            due("judge(" + what + ") of '" + book + "' by " + orders, x.judge(what), want[what]);
        }
    }

    /** The FLAW's place, DUE and ENDING. */
    void flawed(String orders, String book, int place, int due, int ending) {
        judged(orders, book, 0, place, due, ending);
    }

    void isWell(String orders, String book) {
        judged(orders, book, 1, ResidualJudge.NONE, 0, 1);
    }

    /** The FAULT of a text as a BOOK, told by judge and by mark alike. */
    void bookFault(String book, int place) {
        ResidualJudge x = new ResidualJudge();
        write(x, book);
        for (int what = 0; what <= 5; what++) {
            due("judge(" + what + ") of '" + book + "'", x.judge(what), -10 - place);
        }
        due("mark of '" + book + "'", x.mark(), -10 - place);
    }

    void marked(String orders, String book, int bits) {
        ResidualJudge x = of(orders);
        write(x, book);
        due("mark of '" + book + "' by " + orders, x.mark(), bits);
    }

    // ---- the document

    /** Every quoted sentence stands in its section of the document, and no word of the promises is left unquoted. */
    void compareWithDocument() throws IOException {
        endTest();
        if (!Files.isReadable(DOCUMENT)) {
            System.out.println("no " + DOCUMENT + " to compare the sentences with");
            return;
        }
        Map<String, String> sections = sectionsOf(Files.readAllLines(DOCUMENT));
        for (Map.Entry<String, String> section : sections.entrySet()) {
            String left = section.getValue();
            List<String> words = new ArrayList<>(quoted.getOrDefault(section.getKey(), List.of()));
            words.sort((a, b) -> b.length() - a.length());
            for (String quote : words) {
                int at = left.indexOf(quote);
                sentence = section.getKey() + ": " + quote;
                if (at < 0) {
                    breaks("it is not in the document");
                } else {
                    left = left.substring(0, at) + " # " + left.substring(at + quote.length());
                }
            }
            boolean isPromised = section.getKey().equals("Terms") || section.getKey().startsWith("Promise");
            if (isPromised && left.matches("(?s).*\\w.*")) {
                sentence = section.getKey();
                breaks("no test quotes: " + left);
            }
        }
        for (String section : quoted.keySet()) {
            sentence = section;
            if (!sections.containsKey(section)) {
                breaks("no such section");
            }
        }
        sentence = null;
    }

    /** The sections' words by their headings, without rows that only head the calls, each word one blank apart. */
    private static Map<String, String> sectionsOf(List<String> lines) {
        Map<String, String> sections = new LinkedHashMap<>();
        String heading = "";
        for (String line : lines) {
            if (line.startsWith("## ")) {
                heading = line.substring(3).replaceAll("(Promise \\d+):.*", "$1");
            } else if (!line.startsWith("```") && !line.startsWith("Ahead of the calls")) {
                String words = line.replaceAll("^`[^`]*`:", "").replaceAll("======== \\d", "");
                String before = sections.getOrDefault(heading, "");
                sections.put(heading, (before + " " + words).replaceAll("\\s+", " "));
            }
        }
        return sections;
    }
}
