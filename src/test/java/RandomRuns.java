import java.util.Random;

/** Runs of calls drawn from fixed seeds, each answer compared with that of the Model. */
public final class RandomRuns {
    private static final int RUNS = 4000;
    private static final int CALLS = 512;

    private final Random random;
    private final ResidualJudge judge = new ResidualJudge();
    private final Model model = new Model();
    private final StringBuilder told = new StringBuilder();
    private int calls;
    private boolean wrong;

    private RandomRuns(long seed) {
        random = new Random(seed);
    }

    public static void main(String[] args) {
        int bad = 0;
        for (long seed = 1; seed <= RUNS; seed++) {
            RandomRuns run = new RandomRuns(seed);
            run.go();
            if (run.wrong) {
                bad++;
                System.out.println("seed " + seed + ":" + run.told);
            }
        }
        System.out.println("RandomRuns: " + (RUNS - bad) + " runs as due, " + bad + " not");
        if (bad != 0) {
            System.exit(1);
        }
    }

    private void go() {
        while (calls < CALLS && !wrong) {
            act();
        }
    }

    private void due(String call, long got, long want) {
        calls++;
        told.append(' ').append(call).append('=').append(got);
        if (got != want) {
            told.append(" (due is ").append(want).append(')');
            wrong = true;
        }
    }

    private void act() {
        switch (random.nextInt(14)) {
            case 0:
            case 1:
                readGrammar();
                break;
            case 2:
            case 3:
            case 4:
                judgeBook();
                break;
            case 5:
                begin();
                break;
            case 6:
            case 7:
                for (int i = random.nextInt(9); i > 0 && !wrong; i--) {
                    step();
                }
                break;
            case 8:
                due("back", judge.back(), model.back());
                break;
            case 9:
                ask();
                break;
            case 10:
                due("digest", judge.digest(), model.digest());
                break;
            case 11:
                tellWrong();
                break;
            default:
                change();
                break;
        }
    }

    private void write(String text) {
        if (random.nextInt(20) != 0) {
            due("clear", judge.clear(), model.clear());
        }
        for (int i = 0; i < text.length() && calls < CALLS && !wrong; i++) {
            due("type" + text.charAt(i), judge.type(text.charAt(i)), model.type(text.charAt(i)));
        }
    }

    private String spoilt(String text) {
        StringBuilder out = new StringBuilder(text);
        String signs = "abhi()?*+,|&;=_^ \t\u007f";
        for (int n = random.nextInt(4) - 1; n > 0; n--) {
            int at = random.nextInt(out.length() + 1);
            char sign = signs.charAt(random.nextInt(signs.length()));
            if (random.nextBoolean() || at == out.length()) {
                out.insert(at, sign);
            } else if (random.nextBoolean()) {
                out.setCharAt(at, sign);
            } else {
                out.deleteCharAt(at);
            }
        }
        return out.toString();
    }

    private void readGrammar() {
        StringBuilder out = new StringBuilder();
        int sorts = 1 + random.nextInt(8);
        int orders = 1 + random.nextInt(4);
        for (int n = 0; n < orders; n++) {
            int whose = n == 0 || random.nextInt(6) == 0 ? 8 : random.nextInt(sorts);
            out.append(whose == 8 ? '^' : (char) ('a' + whose)).append('=');
            pattern(out, 1 + random.nextInt(random.nextInt(4) == 0 ? 17 : 10), sorts);
            out.append(';');
        }
        write(random.nextInt(4) == 0 ? spoilt(out.toString()) : out.toString());
        due("reads", judge.reads(), model.reads());
    }

    private void pattern(StringBuilder out, int nodes, int sorts) {
        if (random.nextInt(15) == 0) {
            out.append(' ');
        }
        if (nodes <= 1) {
            out.append(random.nextInt(12) == 0 ? '_' : (char) ('a' + random.nextInt(sorts)));
        } else if (nodes == 2 || random.nextInt(4) == 0) {
            boolean bracket = nodes > 2 && random.nextInt(5) != 0;
            bracketed(out, nodes - 1, sorts, bracket);
            out.append("?*+".charAt(random.nextInt(3)));
        } else {
            int left = 1 + random.nextInt(nodes - 2);
            bracketed(out, left, sorts, random.nextBoolean());
            out.append("|&,".charAt(random.nextInt(3)));
            bracketed(out, nodes - 1 - left, sorts, random.nextBoolean());
        }
    }

    private void bracketed(StringBuilder out, int nodes, int sorts, boolean bracket) {
        if (bracket) {
            out.append('(');
        }
        pattern(out, nodes, sorts);
        if (bracket) {
            out.append(')');
        }
    }

    private void judgeBook() {
        StringBuilder out = new StringBuilder();
        parts(out, Model.BOOK, 0);
        String text = out.length() > 100 ? out.substring(0, 100) : out.toString();
        write(random.nextInt(6) == 0 ? spoilt(text) : text);
        for (int what = 0; what <= 5; what++) {
            due("judge" + what, judge.judge(what), model.judge(what));
        }
        due("mark", judge.mark(), model.mark());
    }

    /** PARTS that mostly keep to THE GRAMMAR, so that FLAWS lie deep. */
    private void parts(StringBuilder out, int whose, int depth) {
        Model.Term p = model.grammar[whose];
        for (int n = 0; n < 8 && out.length() < 80; n++) {
            if (random.nextInt(12) == 0) {
                out.append(' ');
            }
            int dueSorts = model.due(p);
            boolean stops = Model.allowsEmpty(p) ? random.nextInt(3) == 0 : random.nextInt(25) == 0;
            if (dueSorts == 0 || stops) {
                break;
            }
            int sort = random.nextInt(8);
            for (int i = 0; i < 40 && (dueSorts & 1 << sort) == 0; i++) {
                sort = random.nextInt(8);
            }
            out.append((char) ('a' + sort));
            p = model.derive(p, sort);
            if (depth < 9 && (model.grammar[sort] != Model.EMPTY || random.nextInt(8) == 0)) {
                out.append('(');
                parts(out, sort, depth + 1);
                out.append(')');
            }
        }
        if (random.nextInt(30) == 0) {
            out.append((char) ('a' + random.nextInt(8)));
        }
    }

    private void begin() {
        int x = random.nextInt(3) == 0 ? 8 : random.nextInt(8);
        due("begins" + x, judge.begins(x), model.begins(x));
    }

    private void step() {
        int dueSorts = model.now(0);
        int x = random.nextInt(8);
        for (int i = 0; i < 30 && (dueSorts & 1 << x) == 0; i++) {
            x = random.nextInt(8);
        }
        due("steps" + x, judge.steps(x), model.steps(x));
        for (int what = 0; what <= 3 && random.nextInt(3) == 0; what++) {
            due("now" + what, judge.now(what), model.now(what));
        }
    }

    private void ask() {
        int x = random.nextInt(9);
        int what = random.nextInt(4);
        int n = random.nextInt(random.nextInt(4) == 0 ? 7 : 5);
        due("of" + x + "/" + what, judge.of(x, what), model.of(x, what));
        due("rows" + x + "/" + n, judge.rows(x, n), model.rows(x, n));
        int which = random.nextInt(5);
        due("told" + which, judge.told(which), model.told(which));
    }

    private int anything() {
        int[] edges = {-1, 4, 5, 6, 7, 8, 9, 127, 128, 150, 32, Integer.MIN_VALUE, Integer.MAX_VALUE, 0, 3};
        return edges[random.nextInt(edges.length)];
    }

    private void tellWrong() {
        int a = anything();
        int b = anything();
        switch (random.nextInt(9)) {
            case 0:
                due("type" + a, judge.type(a), model.type(a));
                break;
            case 1:
                due("clears" + a, judge.clears(a), model.clears(a));
                break;
            case 2:
                due("of" + a + "/" + b, judge.of(a, b), model.of(a, b));
                break;
            case 3:
                due("rows" + a + "/" + b, judge.rows(a, b), model.rows(a, b));
                break;
            case 4:
                due("judge" + a, judge.judge(a), model.judge(a));
                break;
            case 5:
                due("begins" + a, judge.begins(a), model.begins(a));
                break;
            case 6:
                due("steps" + a, judge.steps(a), model.steps(a));
                break;
            case 7:
                due("now" + a, judge.now(a), model.now(a));
                break;
            default:
                due("told" + a, judge.told(a), model.told(a));
                break;
        }
    }

    private void change() {
        int x = random.nextInt(9);
        if (random.nextInt(4) == 0) {
            due("clears" + x, judge.clears(x), model.clears(x));
        } else if (random.nextInt(3) == 0) {
            due("reads", judge.reads(), model.reads());
        } else {
            step();
        }
    }
}
