import java.io.File;
import java.io.IOException;
import java.io.OutputStream;
import java.io.PrintStream;
import java.net.URL;
import java.net.URLClassLoader;
import java.nio.file.Files;
import java.nio.file.Path;
import java.util.ArrayList;
import java.util.List;
import java.util.Set;
import java.util.TreeSet;
import java.util.concurrent.FutureTask;
import java.util.concurrent.TimeUnit;
import java.util.concurrent.TimeoutException;
import javax.tools.JavaCompiler;
import javax.tools.ToolProvider;

/**
 * Breaks the class on purpose, one sentence of the document at a time, as breaks.txt tells, and looks whether the
 * sentence's own test notices. Run by hand (.ci/broken), since it has to follow the class's text.
 */
public final class BrokenSentences {
    private static final Path MAIN = Path.of("src/main/java/ResidualJudge.java");
    private static final Path TESTS = Path.of("src/test/java");
    private static final Path BREAKS = Path.of("src/broken/breaks.txt");
    private static final long MOST_SECONDS = 60;

    /** One way to break a sentence: rows of the class, without their indents, and what is put in their places. */
    private static final class Break {
        private final String sentence;
        private final List<String> from = new ArrayList<>();
        private final List<String> to = new ArrayList<>();

        private Break(String sentence) {
            this.sentence = sentence;
        }
    }

    public static void main(String[] args) throws Exception {
        String source = withoutIndents(Files.readAllLines(MAIN));
        Path folder = Files.createTempDirectory("broken");
        List<Break> breaks = readBreaks();
        Set<String> unbroken = sentencesOf(source, folder);
        int missed = 0;
        for (Break each : breaks) {
            String fault = tryBreak(source, each, folder);
            unbroken.remove(each.sentence);
            if (!fault.isEmpty()) {
                missed++;
                System.out.println(each.sentence + "\n    " + String.join("\n    ", each.to) + "\n  " + fault);
            }
        }
        for (String sentence : unbroken) {
            System.out.println("nothing breaks: " + sentence);
        }
        System.out.println(breaks.size() + " breaks, " + missed + " missed, " + unbroken.size()
                + " sentences that nothing breaks");
        if (missed + unbroken.size() != 0) {
            System.exit(1);
        }
    }

    private static String withoutIndents(List<String> lines) {
        StringBuilder out = new StringBuilder();
        for (String line : lines) {
            out.append(line.strip()).append('\n');
        }
        return out.toString();
    }

    private static List<Break> readBreaks() throws IOException {
        List<Break> breaks = new ArrayList<>();
        String sentence = "";
        char before = ' ';
        for (String line : Files.readAllLines(BREAKS)) {
            char sign = line.isEmpty() ? ' ' : line.charAt(0);
            String words = line.length() > 2 ? line.substring(2) : "";
            if (sign == '#') {
                sentence = words;
            } else if (sign == '-' || sign == '+') {
                if (sign == '-' && before == ' ') {
                    breaks.add(new Break(sentence));
                }
                Break last = breaks.get(breaks.size() - 1);
                if (sign == '-' && before != '-') {
                    last.from.add(words);
                    last.to.add("");
                } else if (sign == '-') {
                    last.from.set(last.from.size() - 1, last.from.get(last.from.size() - 1) + "\n" + words);
                } else {
                    String part = last.to.get(last.to.size() - 1);
                    last.to.set(last.to.size() - 1, part.isEmpty() ? words : part + "\n" + words);
                }
            }
            before = sign == '#' ? ' ' : sign;
        }
        return breaks;
    }

    /** What went wrong with a break; empty, if the sentence's test noticed it. */
    private static String tryBreak(String source, Break each, Path folder) throws Exception {
        String changed = source;
        for (int i = 0; i < each.from.size(); i++) {
            int at = changed.indexOf(each.from.get(i));
            if (at < 0 || changed.indexOf(each.from.get(i), at + 1) >= 0) {
                return "not once in the class: " + each.from.get(i);
            }
            changed = changed.substring(0, at) + each.to.get(i) + changed.substring(at + each.from.get(i).length());
        }
        return brokenBy(changed, folder, "broken").contains(each.sentence) ? "" : "its test does not notice";
    }

    private static Set<String> sentencesOf(String source, Path folder) throws Exception {
        Set<String> broken = brokenBy(source, folder, "broken");
        if (!broken.isEmpty()) {
            throw new IllegalStateException("broken as it is: " + broken);
        }
        return brokenBy(source, folder, "named");
    }

    /** Compiles a text of the class with the tests, runs these, and asks for the sentences that they tell. */
    private static Set<String> brokenBy(String source, Path folder, String which) throws Exception {
        Path file = folder.resolve("ResidualJudge.java");
        Files.writeString(file, source);
        List<String> options = new ArrayList<>(List.of("-nowarn", "-d", folder.toString(), file.toString()));
        for (String test : new String[] {"Sentences", "SentenceTests", "GrammarSentences", "BookSentences",
            "TextSentences", "CallSentences"}) {
            options.add(TESTS + File.separator + test + ".java");
        }
        JavaCompiler compiler = ToolProvider.getSystemJavaCompiler();
        if (compiler.run(null, null, null, options.toArray(new String[0])) != 0) {
            throw new IllegalStateException("does not compile");
        }
        FutureTask<Set<String>> task = new FutureTask<>(() -> runTests(folder, which));
        Thread thread = new Thread(task);
        thread.setDaemon(true);
        thread.start();
        try {
            return task.get(MOST_SECONDS, TimeUnit.SECONDS);
        } catch (TimeoutException late) {
            return Set.of("no end");
        }
    }

    private static Set<String> runTests(Path folder, String which) throws Exception {
        PrintStream out = System.out;
        ClassLoader parent = ClassLoader.getPlatformClassLoader();
        try (URLClassLoader loader = new URLClassLoader(new URL[] {folder.toUri().toURL()}, parent)) {
            System.setOut(new PrintStream(OutputStream.nullOutputStream()));
            Class<?> sentences = loader.loadClass("Sentences");
            var maker = sentences.getDeclaredConstructor();
            maker.setAccessible(true);
            Object told = maker.newInstance();
            var run = loader.loadClass("SentenceTests").getDeclaredMethod("run", sentences);
            run.setAccessible(true);
            run.invoke(null, told);
            var answer = sentences.getDeclaredMethod(which);
            answer.setAccessible(true);
            Set<String> names = new TreeSet<>();
            for (Object name : (Iterable<?>) answer.invoke(told)) {
                names.add(String.valueOf(name));
            }
            return names;
        } finally {
            System.setOut(out);
        }
    }
}
