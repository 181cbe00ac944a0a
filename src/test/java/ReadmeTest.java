import java.io.IOException;
import java.lang.reflect.Method;
import java.nio.file.Files;
import java.nio.file.Path;
import java.util.regex.Matcher;
import java.util.regex.Pattern;

/** README.md's example, done row by row: each call answers what the comment behind it says; run in the project's folder. */
public final class ReadmeTest {
    private static final Pattern TYPED = Pattern.compile("for \\(char c : \"(.*)\"\\.toCharArray\\(\\)\\) judge\\.type\\(c\\);");
    private static final Pattern ASKED = Pattern.compile("judge\\.(\\w+)\\(([\\d, ]*)\\); +// (-?\\d+): .*");

    private static final ResidualJudge JUDGE = new ResidualJudge();
    private static int asked;
    private static int wrong;

    public static void main(String[] args) throws IOException, ReflectiveOperationException {
        boolean inside = false;
        for (String row : Files.readAllLines(Path.of("README.md"))) {
            if (row.startsWith("```")) {
                inside = row.equals("```java");
            } else if (inside) {
                follow(row);
            }
        }
        System.out.println("ReadmeTest: " + asked + " answers, " + wrong + " not as due");
        if (wrong != 0 || asked == 0) {
            System.exit(1);
        }
    }

    private static void follow(String row) throws ReflectiveOperationException {
        Matcher typed = TYPED.matcher(row);
        Matcher call = ASKED.matcher(row);
        if (typed.matches()) {
            for (char c : typed.group(1).toCharArray()) {
                JUDGE.type(c);
            }
        } else if (call.matches()) {
            asked++;
            Object got = answer(call.group(1), call.group(2));
            if (!got.toString().equals(call.group(3))) {
                tell(row + " answered " + got);
            }
        } else if (!row.equals("ResidualJudge judge = new ResidualJudge();")) {
            tell("not understood: " + row);
        }
    }

    private static Object answer(String name, String numbers) throws ReflectiveOperationException {
        String[] given = numbers.isEmpty() ? new String[0] : numbers.split(", ");
        Object[] values = new Object[given.length];
        Class<?>[] types = new Class<?>[given.length];
        for (int i = 0; i < given.length; i++) {
            values[i] = Integer.valueOf(given[i]);
            types[i] = int.class;
        }
        Method method = ResidualJudge.class.getMethod(name, types);
        return method.invoke(JUDGE, values);
    }

    private static void tell(String what) {
        wrong++;
        System.out.println("README.md: " + what);
    }
}
