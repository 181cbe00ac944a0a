import java.math.BigInteger;
import java.util.ArrayList;
import java.util.List;

/** What the document promises of each call, a test for each sentence. */
final class CallSentences {
    private static final int BAD = ResidualJudge.BAD, NO = ResidualJudge.NO, FULL = ResidualJudge.FULL;
    private static final int[] FAR = {Integer.MIN_VALUE, Integer.MIN_VALUE + 1, -1000, 1000, Integer.MAX_VALUE};

    private final Sentences s;

    private CallSentences(Sentences sentences) {
        s = sentences;
    }

    static void run(Sentences sentences) {
        CallSentences tests = new CallSentences(sentences);
        tests.newObject();
        tests.type();
        tests.clear();
        tests.reads();
        tests.clears();
        tests.of();
        tests.rows();
        tests.judge();
        tests.judgeRefused();
        tests.mark();
        tests.begins();
        tests.steps();
        tests.stepsRefused();
        tests.now();
        tests.back();
        tests.told();
        tests.digest();
        tests.digestOfRow();
    }

    // ---- Promise 1

    private void newObject() {
        s.says("Promise 1", "As told.");
        ResidualJudge x = new ResidualJudge();
        for (int what = 0; what <= 4; what++) {
            s.due("new told(" + what + ")", x.told(what), 0);
        }
        for (int owner = 0; owner <= 8; owner++) {
            s.due("new of(" + owner + ", 0)", x.of(owner, 0), 1);
            s.due("new of(" + owner + ", 2)", x.of(owner, 2), 0);
        }
        int[] row = {0, 1, 0, 8};
        int[] book = {1, -1, 0, 1, 0, 0};
        for (int what = 0; what <= 3; what++) {
            s.due("new now(" + what + ")", x.now(what), row[what]);
        }
        for (int what = 0; what <= 5; what++) {
            s.due("new judge(" + what + ")", x.judge(what), book[what]);
        }
        s.due("new mark", x.mark(), 0x3F800000);
        s.due("new reads", x.reads(), -10);
        s.due("new clear", x.clear(), 0);
        s.due("new steps(0)", x.steps(0), NO);
        s.due("new back", x.back(), NO);
        ResidualJudge y = s.of("^=a;a=b;");
        y.steps(0);
        ResidualJudge z = new ResidualJudge();
        s.due("one object is not another: of(8, 2)", z.of(8, 2), 0);
        s.due("one object is not another: now(2)", z.now(2), 0);
        s.due("one object is not another: told(3)", z.told(3), 0);
        s.due("one object is not another: told(4)", z.told(4), 0);
    }

    // ---- Promise 2

    private void type() {
        s.says("Promise 2", "A byte (0 .. 127) comes behind THE TEXT: how many it has.");
        ResidualJudge x = new ResidualJudge();
        for (int c = 0; c <= 127; c++) {
            s.due("type(" + c + ")", x.type(c), c + 1);
        }
        x = new ResidualJudge();
        x.type('^');
        x.type('=');
        x.type('h');
        x.type(';');
        s.due("reads of bytes in their order", x.reads(), 1);
        s.due("the last but one", x.of(8, 1), 128);

        s.says("Promise 2", "BAD;");
        x = new ResidualJudge();
        s.due("type(-1)", x.type(-1), BAD);
        s.due("type(128)", x.type(128), BAD);
        s.due("type(225), a as a byte of 7 bits", x.type('a' + 128), BAD);
        s.due("type(353), a as a byte of 8 bits", x.type('a' + 256), BAD);
        for (int far : FAR) {
            s.due("type(" + far + ")", x.type(far), BAD);
        }
        s.due("bytes", x.told(3), 0);
        s.due("counted", x.told(0), 9);

        s.says("Promise 2", "FULL: 150.");
        x = new ResidualJudge();
        for (int i = 1; i <= 150; i++) {
            s.due("type, byte " + i, x.type('a'), i);
        }
        s.due("byte 151", x.type('b'), FULL);
        s.due("byte 151 again", x.type('b'), FULL);
        s.due("bytes", x.told(3), 150);
        s.due("letters", x.judge(4), 150);
        s.due("counted", x.told(2), 2);
        x.clear();
        s.due("room again", x.type('b'), 1);
    }

    // ---- Promise 3

    private void clear() {
        s.says("Promise 3", "THE TEXT is empty: how many it had.");
        ResidualJudge x = new ResidualJudge();
        s.due("clear of none", x.clear(), 0);
        x.type('a');
        s.due("clear of one", x.clear(), 1);
        s.due("bytes", x.told(3), 0);
        s.due("letters", x.judge(4), 0);
        s.due("reads", x.reads(), -10);
        for (int i = 0; i < 152; i++) {
            x.type('a');
        }
        s.due("clear of a full one", x.clear(), 150);
        s.due("clear again", x.clear(), 0);
        s.due("the first byte again", x.type('h'), 1);
        s.due("letters", x.judge(4), 1);
        s.due("no state by it", x.told(4), 0);
    }

    // ---- Promise 4

    private void reads() {
        s.says("Promise 4", "ORDERS of THE GRAMMAR are done (THE TEXT stays): how many.");
        s.reads("a=b;", 1);
        s.reads("a=b;b=c;c=d;", 3);
        s.reads("a=_;".repeat(37), 37);
        s.reads("a=_;".repeat(37) + "  ", 37);
        s.readsFault("a=_;".repeat(37) + "a=", 150);
        ResidualJudge x = s.of("^=a;h=b;");
        s.due("done: of(8, 1)", x.of(8, 1), 1);
        s.due("done: of(7, 1)", x.of(7, 1), 2);
        s.due("the text stays", x.told(3), 8);
        s.due("the text stays: reads", x.reads(), 2);
        s.due("the text stays: type", x.type(' '), 9);
        s.due("the text stays: clear", x.clear(), 9);

        s.says("Promise 4", "S (one STATE for all).");
        x = s.of("a=b;b=c;c=d;");
        s.due("states", x.told(4), 1);
        s.due("back", x.back(), 0);
        for (int owner = 0; owner <= 2; owner++) {
            s.due("all are taken back: of(" + owner + ", 2)", x.of(owner, 2), 0);
        }
        s.due("reads again", x.reads(), 3);
        s.due("reads again", x.reads(), 3);
        s.due("states", x.told(4), 2);

        s.says("Promise 4", "-10 less the FAULT.");
        s.reads("*", -10);
        s.reads("a*", -11);
        s.reads("a=b;c=d;*", -18);
        s.reads(" ".repeat(149) + "*", -159);
        s.reads("a=" + " ".repeat(148), -160);
        x = s.of("^=a;");
        x.steps(0);
        s.due("a fault behind orders", Sentences.read(x, "^=b;c=d;*"), -18);
        s.due("none is done: of(8, 2)", x.of(8, 2), 1);
        s.due("none is done: of(2, 2)", x.of(2, 2), 0);
        s.due("the row stays", x.now(2), 1);
        s.due("the text stays", x.told(3), 9);
        s.due("no state", x.told(4), 2);
    }

    // ---- Promise 5

    private void clears() {
        s.says("Promise 5", "The PATTERN of a SORT (0 .. 7), THE BOOK (8) becomes _");
        String orders = "a=a,a;b=a,a;c=a,a;d=a,a;e=a,a;f=a,a;g=a,a;h=a,a;^=a,a;";
        for (int cleared = 0; cleared <= 8; cleared++) {
            ResidualJudge x = s.of(orders);
            s.due("clears(" + cleared + ")", x.clears(cleared), 1);
            for (int owner = 0; owner <= 8; owner++) {
                s.due("of(" + owner + ", 0)", x.of(owner, 0), owner == cleared ? 1 : 0);
                s.due("of(" + owner + ", 2)", x.of(owner, 2), owner == cleared ? 0 : 1);
                s.due("rows(" + owner + ", 2)", x.rows(owner, 2), owner == cleared ? 0 : 1);
            }
        }

        s.says("Promise 5", "(THE ROW as when THE GRAMMAR is told anew): 1.");
        for (int cleared : new int[] {0, 1, 8}) {
            ResidualJudge x = s.of(orders);
            x.begins(0);
            x.steps(0);
            s.due("clears(" + cleared + ")", x.clears(cleared), 1);
            s.due("the row is empty", x.now(2), 0);
            s.due("of the book", x.now(3), 8);
            s.due("due", x.now(0), cleared == 8 ? 0 : 1);
            s.due("clears again", x.clears(cleared), 1);
        }

        s.says("Promise 5", "S.");
        ResidualJudge x = s.of(orders);
        x.clears(3);
        s.due("states", x.told(4), 2);
        s.due("back", x.back(), 1);
        s.due("as before", x.of(3, 3), 2);

        s.says("Promise 5", "BAD.");
        x.steps(0);
        s.due("clears(-1)", x.clears(-1), BAD);
        s.due("clears(9)", x.clears(9), BAD);
        for (int far : FAR) {
            s.due("clears(" + far + ")", x.clears(far), BAD);
        }
        s.due("counted", x.told(0), 7);
        s.due("states", x.told(4), 2);
        s.due("the row stays", x.now(2), 1);
        for (int owner = 0; owner <= 8; owner++) {
            s.due("of(" + owner + ", 3)", x.of(owner, 3), 2);
        }
    }

    // ---- Promise 6

    private void of() {
        s.says("Promise 6", "Of the PATTERN of a SORT, THE BOOK: whether it allows the empty ROW (what 0: 1, 0),");
        ofEach("_ a a? a* a+ a?+ _,_ a?,b a?,b? a|_ a|b a&_ a*&b? (a,b)?", 0, 1, 0, 1, 1, 0, 1, 1, 0, 1, 1, 0, 0, 1, 1);

        s.says("Promise 6", "SORTS with which a ROW can begin (1, bits),");
        ofEach("_ a h a,b a?,b a*,b*,c a|h a&b (a,b)&c _,d (a,b)* a|b|c|d|e|f|g|h _*,_|_", 1,
                0, 1, 128, 1, 3, 7, 129, 3, 5, 8, 1, 255, 0);

        s.says("Promise 6", "SORTS that can stand in a ROW (2, bits),");
        ofEach("_ a h a,b a?,b a*,b*,c a|h a&b (a,b)&c _,d (a,b)* a&b&c&d&e&f&g&h _*,_|_", 2,
                0, 1, 128, 3, 3, 7, 129, 3, 7, 8, 3, 255, 0);

        s.says("Promise 6", "how long its shortest ROW is (3).");
        ofEach("_ a a? a* a+ a,b a|b,c a,a|_ a&a,a a+,b+ (a,a)+ a&b&c&d&e&f&g&h a,a,a,a,a,a,a,a _,a", 3,
                0, 1, 0, 0, 1, 2, 1, 0, 3, 2, 2, 8, 8, 1);

        s.says("Promise 6", "BAD.");
        ResidualJudge x = s.of("^=a;");
        s.due("of(-1, 0)", x.of(-1, 0), BAD);
        s.due("of(9, 0)", x.of(9, 0), BAD);
        s.due("of(0, -1)", x.of(0, -1), BAD);
        s.due("of(0, 4)", x.of(0, 4), BAD);
        s.due("of(8, 4)", x.of(8, 4), BAD);
        s.due("of(9, 4), counted once", x.of(9, 4), BAD);
        for (int far : FAR) {
            s.due("of(" + far + ", 0)", x.of(far, 0), BAD);
            s.due("of(0, " + far + ")", x.of(0, far), BAD);
        }
        s.due("counted", x.told(0), 16);
        s.due("as told", x.of(8, 3) + x.of(0, 0), 2);
        s.due("not counted", x.told(0), 16);
    }

    /** of(.., what) for each PATTERN, as that of THE BOOK and as that of each SORT. */
    private void ofEach(String patterns, int what, int... want) {
        String[] each = patterns.split(" ");
        for (int i = 0; i < each.length; i++) {
            for (int owner = 0; owner <= 8; owner++) {
                ResidualJudge x = s.of("^abcdefgh".charAt((owner + 1) % 9) + "=" + each[i] + ";");
                s.due("of(" + owner + ", " + what + ") of " + each[i], x.of(owner, what), want[i]);
            }
        }
        s.due("answers", want.length, each.length);
    }

    // ---- Promise 7

    private void rows() {
        s.says("Promise 7", "How many ROWS of n SORTS (0 .. 6) the PATTERN of a SORT, THE BOOK allows.");
        s.counts("(a|b|c|d|e|f|g|h)*", 1, 8, 64, 512, 4096, 32768, 262144);
        s.counts("(a|b|c|d|e|f|g|h)+", 0, 8, 64, 512, 4096, 32768, 262144);
        s.counts("a,a,a,a,a,a", 0, 0, 0, 0, 0, 0, 1);
        s.counts("a,a,a,a,a,a,a", 0, 0, 0, 0, 0, 0, 0);
        s.counts("a&b&c&d&e&f", 0, 0, 0, 0, 0, 0, 720);
        s.counts("a?&b?&c?&d?&e?", 1, 5, 20, 60, 120, 120, 0);
        // A ROW that is allowed in many ways is one ROW.
        s.counts("a*,a*,a*", 1, 1, 1, 1, 1, 1, 1);
        s.counts("a|a|a,a|a&a", 0, 1, 1, 0, 0, 0, 0);
        s.counts("(a*)*&a*", 1, 1, 1, 1, 1, 1, 1);
        ResidualJudge x = s.of("a=a?;b=b|c;c=(a|b|c)*;h=h,h;");
        for (int n = 6; n >= 0; n--) {
            s.due("rows(0, " + n + ")", x.rows(0, n), n <= 1 ? 1 : 0);
            s.due("rows(1, " + n + ")", x.rows(1, n), n == 1 ? 2 : 0);
            s.due("rows(2, " + n + ")", x.rows(2, n), (int) Math.pow(3, n));
            s.due("rows(7, " + n + ")", x.rows(7, n), n == 2 ? 1 : 0);
            s.due("rows(8, " + n + ")", x.rows(8, n), n == 0 ? 1 : 0);
        }

        s.says("Promise 7", "BAD.");
        s.due("rows(-1, 0)", x.rows(-1, 0), BAD);
        s.due("rows(9, 0)", x.rows(9, 0), BAD);
        s.due("rows(0, -1)", x.rows(0, -1), BAD);
        s.due("rows(0, 7)", x.rows(0, 7), BAD);
        s.due("rows(9, 7), counted once", x.rows(9, 7), BAD);
        for (int far : FAR) {
            s.due("rows(" + far + ", 0)", x.rows(far, 0), BAD);
            s.due("rows(0, " + far + ")", x.rows(0, far), BAD);
        }
        s.due("counted", x.told(0), 15);
    }

    // ---- Promise 8

    private void judge() {
        String promise = "Promise 8";
        s.says(promise, "THE TEXT as a BOOK, JUDGED: whether it is well (what 0: 1, 0),");
        s.judged("^=a;a=b?;", "a", 1);
        s.judged("^=a;a=b?;", "a(b)", 1);
        s.judged("^=a;a=b?;", "a(a)", 0);
        s.judged("^=a;a=b?;", "", 0);
        s.judged("^=a*;a=b?;", "", 1);

        s.says(promise, "the place of the FLAW (1; NONE),");
        s.judged("^=a*;a=b?;", "aa", 1, -1);
        s.judged("^=a*;a=b?;", "", 1, -1);
        s.judged("^=a*;a=b?;", "b", 0, 0);
        s.judged("^=a+;a=b?;", "", 0, 0);
        s.judged("^=a*;a=b?;", "a".repeat(149) + "b", 0, 149);
        s.judged("^=a*,b;a=b?;", "a".repeat(150), 0, 150);

        s.says(promise, "DUE (2, bits; 0: well),");
        s.judged("^=a*;a=b?;", "aa", 1, -1, 0);
        s.judged("^=a*;a=b?;", "", 1, -1, 0);
        s.judged("^=a*|h;a=b?;", "b", 0, 0, 129);
        s.judged("^=a*;a=b?;", "a(bb)", 0, 3, 0);

        s.says(promise, "ENDING (3: 1, 0; well: 1),");
        s.judged("^=a*;a=b?;", "aa", 1, -1, 0, 1);
        s.judged("^=a*;a=b?;", "b", 0, 0, 1, 1);
        s.judged("^=a+;a=b?;", "b", 0, 0, 1, 0);
        s.judged("^=a+;a=b?;", "", 0, 0, 1, 0);

        s.says(promise, "letters in all (4),");
        s.judged("^=a*;a=b?;", "", 1, -1, 0, 1, 0);
        s.judged("^=a*;a=b?;", " a ( b ) a ", 1, -1, 0, 1, 3);
        s.judged("^=a*;a=b?;", "hhh(h)h", 0, 0, 1, 1, 5);
        s.judged("^=a*;a=b?;", "h".repeat(150), 0, 0, 1, 1, 150);

        s.says(promise, "the depth of the deepest PART (5; 1: in THE BOOK itself; 0: no letters).");
        s.judged("^=h*;h=h*;", "", 1, -1, 0, 1, 0, 0);
        s.judged("^=h*;h=h*;", "  ", 1, -1, 0, 1, 0, 0);
        s.judged("^=h*;h=h*;", "h", 1, -1, 0, 1, 1, 1);
        s.judged("^=h*;h=h*;", "h()", 1, -1, 0, 1, 1, 1);
        s.judged("^=h*;h=h*;", "h(h)", 1, -1, 0, 1, 2, 2);
        s.judged("^=h*;h=h*;", "h(h(h))h(h)h", 1, -1, 0, 1, 6, 3);
        s.judged("^=h*;h=h*;", "h(h(h(h(h(h(h(h(h))))))))", 1, -1, 0, 1, 9, 9);
        s.judged("^=h*;h=h*;", "a(a(a()))", 0, 0, 128, 1, 3, 3);
    }

    private void judgeRefused() {
        s.says("Promise 8", "BAD;");
        ResidualJudge x = s.of("^=a;");
        s.due("judge(-1)", x.judge(-1), BAD);
        s.due("judge(6)", x.judge(6), BAD);
        for (int far : FAR) {
            s.due("judge(" + far + ")", x.judge(far), BAD);
        }
        s.due("counted", x.told(0), 7);

        s.says("Promise 8", "-10 less the FAULT.");
        for (int what = 0; what <= 5; what++) {
            faultOfJudge("*", what, -10);
            faultOfJudge("a*", what, -11);
            faultOfJudge("a(", what, -12);
            faultOfJudge("a".repeat(149) + "*", what, -159);
            faultOfJudge("a".repeat(149) + "(", what, -160);
        }
    }

    private void faultOfJudge(String text, int what, int want) {
        ResidualJudge x = new ResidualJudge();
        Sentences.write(x, text);
        s.due("judge(" + what + ") of '" + text + "'", x.judge(what), want);
    }

    // ---- Promise 9

    private void mark() {
        s.says("Promise 9", "MARK of THE TEXT as a BOOK, as bits;");
        s.marked("^=a*;", "aa", 0x3F800000);
        s.marked("^=a*;", "ab", 0x3F000000);
        s.marked("^=a*;", "ba", 0);
        s.marked("^=a*;", "aba", 0x3EAAAAAB);
        s.marked("^=a;", "", 0);
        s.marked("^=_;", "", 0x3F800000);

        s.says("Promise 9", "-10 less the FAULT.");
        for (String[] each : new String[][] {{"*", "-10"}, {"a*", "-11"}, {"a(", "-12"},
            {"a".repeat(149) + "*", "-159"}, {"a".repeat(149) + "(", "-160"}}) {
            s.marked("^=a*;", each[0], Integer.parseInt(each[1]));
        }
    }

    // ---- Promise 10

    private void begins() {
        s.says("Promise 10", "THE ROW becomes empty, of the PATTERN of a SORT, THE BOOK: DUE.");
        ResidualJudge x = s.of("^=a|b;a=c?,d;h=h,a;b=_;");
        x.steps(0);
        int[][] want = {{8, 3}, {0, 12}, {7, 128}, {1, 0}, {2, 0}, {6, 0}, {8, 3}};
        for (int[] each : want) {
            s.due("begins(" + each[0] + ")", x.begins(each[0]), each[1]);
            s.due("its length", x.now(2), 0);
            s.due("whose", x.now(3), each[0]);
            s.due("due", x.now(0), each[1]);
        }
        x.steps(1);
        s.due("begins of the same", x.begins(8), 3);
        s.due("its length", x.now(2), 0);

        s.says("Promise 10", "S.");
        x = s.of("^=a|b;");
        x.steps(1);
        x.begins(3);
        s.due("states", x.told(4), 3);
        s.due("back", x.back(), 2);
        s.due("its length", x.now(2), 1);
        s.due("whose", x.now(3), 8);

        s.says("Promise 10", "BAD.");
        s.due("begins(-1)", x.begins(-1), BAD);
        s.due("begins(9)", x.begins(9), BAD);
        for (int far : FAR) {
            s.due("begins(" + far + ")", x.begins(far), BAD);
        }
        s.due("counted", x.told(0), 7);
        s.due("states", x.told(4), 2);
        s.due("the row stays", x.now(2), 1);
    }

    // ---- Promise 11

    private void steps() {
        s.says("Promise 11", "A STEP with a SORT: DUE then.");
        ResidualJudge x = s.of("^=(a,b)&c*;h=h;");
        s.due("steps(2)", x.steps(2), 5);
        s.due("steps(0)", x.steps(0), 6);
        s.due("steps(2)", x.steps(2), 6);
        s.due("steps(1)", x.steps(1), 4);
        s.due("its length", x.now(2), 4);
        x.begins(7);
        s.due("steps(7), the last SORT", x.steps(7), 0);

        s.says("Promise 11", "S.");
        x = s.of("^=a,b;");
        x.steps(0);
        x.steps(1);
        s.due("states", x.told(4), 3);
        s.due("back", x.back(), 2);
        s.due("its length", x.now(2), 1);
        s.due("due", x.now(0), 2);
    }

    private void stepsRefused() {
        s.says("Promise 11", "BAD;");
        ResidualJudge x = s.of("^=a*;");
        s.due("steps(-1)", x.steps(-1), BAD);
        s.due("steps(8), THE BOOK", x.steps(8), BAD);
        s.due("steps(32), 0 as a shift", x.steps(32), BAD);
        for (int far : FAR) {
            s.due("steps(" + far + ")", x.steps(far), BAD);
        }
        s.due("counted", x.told(0), 8);
        s.due("states", x.told(4), 1);
        s.due("its length", x.now(2), 0);

        s.says("Promise 11", "NO: it can not stand there;");
        x = s.of("^=a,b;");
        s.due("steps(1)", x.steps(1), NO);
        s.due("steps(7)", x.steps(7), NO);
        x.steps(0);
        s.due("steps(0)", x.steps(0), NO);
        x.steps(1);
        for (int sort = 0; sort <= 7; sort++) {
            s.due("steps(" + sort + ") behind all", x.steps(sort), NO);
        }
        s.due("counted", x.told(1), 11);
        s.due("states", x.told(4), 3);
        s.due("its length", x.now(2), 2);

        s.says("Promise 11", "FULL: THE ROW has 20 SORTS.");
        x = s.of("^=h*;");
        for (int i = 1; i <= 20; i++) {
            s.due("step " + i, x.steps(7), 128);
            s.due("its length", x.now(2), i);
        }
        s.due("step 21", x.steps(7), FULL);
        s.due("step 21 again", x.steps(7), FULL);
        s.due("counted", x.told(2), 2);
        s.due("its length", x.now(2), 20);
        s.due("due of a full one", x.now(0), 128);
        s.due("ending of a full one", x.now(1), 1);
        s.due("back", x.back(), 3);
        s.due("step 20", x.steps(7), 128);
        s.due("step 21", x.steps(7), FULL);
        s.due("begins", x.begins(8), 128);
        s.due("step 1", x.steps(7), 128);
    }

    // ---- Promise 12

    private void now() {
        s.says("Promise 12", "Of THE ROW: DUE (what 0), ENDING (1), its length (2), whose PATTERN it is of (3).");
        ResidualJudge x = s.of("^=a?,b;h=c*;");
        nowDue(x, 3, 0, 0, 8);
        x.steps(0);
        nowDue(x, 2, 0, 1, 8);
        x.steps(1);
        nowDue(x, 0, 1, 2, 8);
        x.begins(7);
        nowDue(x, 4, 1, 0, 7);
        x.begins(0);
        nowDue(x, 0, 1, 0, 0);

        s.says("Promise 12", "BAD.");
        s.due("now(-1)", x.now(-1), BAD);
        s.due("now(4)", x.now(4), BAD);
        for (int far : FAR) {
            s.due("now(" + far + ")", x.now(far), BAD);
        }
        s.due("counted", x.told(0), 7);
    }

    private void nowDue(ResidualJudge x, int... want) {
        for (int what = 0; what < want.length; what++) {
            s.due("now(" + what + ")", x.now(what), want[what]);
        }
    }

    // ---- Promise 13

    private void back() {
        s.says("Promise 13", "A STATE back: how many can be yet.");
        ResidualJudge x = new ResidualJudge();
        for (int owner = 0; owner <= 5; owner++) {
            x.begins(owner);
        }
        for (int left = 3; left >= 0; left--) {
            s.due("back", x.back(), left);
            s.due("whose", x.now(3), left + 1);
            s.due("states", x.told(4), left);
        }
        x.begins(7);
        s.due("one again", x.told(4), 1);
        s.due("back", x.back(), 0);
        s.due("whose", x.now(3), 1);

        s.says("Promise 13", "NO: none.");
        s.due("back", x.back(), NO);
        s.due("back again", x.back(), NO);
        s.due("counted", x.told(1), 2);
        s.due("states", x.told(4), 0);
        s.due("whose", x.now(3), 1);
        s.due("back of a new one", new ResidualJudge().back(), NO);
    }

    // ---- Promise 14

    private void told() {
        s.says("Promise 14", "How often refused: BAD (0), NO (1), FULL (2);");
        ResidualJudge x = new ResidualJudge();
        x.type(128);
        x.clears(9);
        x.of(0, 4);
        s.due("bad", x.told(0), 3);
        s.due("no", x.told(1), 0);
        s.due("full", x.told(2), 0);
        x.back();
        x.steps(0);
        s.due("bad", x.told(0), 3);
        s.due("no", x.told(1), 2);
        s.due("full", x.told(2), 0);
        for (int i = 0; i < 155; i++) {
            x.type('a');
        }
        s.due("bad", x.told(0), 3);
        s.due("no", x.told(1), 2);
        s.due("full", x.told(2), 5);
        for (int i = 1; i <= 300; i++) {
            x.begins(9);
        }
        s.due("bad", x.told(0), 303);

        s.says("Promise 14", "bytes of THE TEXT (3),");
        x = new ResidualJudge();
        s.due("none", x.told(3), 0);
        for (int i = 1; i <= 150; i++) {
            x.type('a');
            s.due("bytes", x.told(3), i);
        }
        x.type('a');
        s.due("a full one", x.told(3), 150);
        x.clear();
        s.due("cleared", x.told(3), 0);

        s.says("Promise 14", "STATES (4).");
        s.due("none", x.told(4), 0);
        for (int i = 1; i <= 6; i++) {
            x.clears(i);
            s.due("states", x.told(4), Math.min(4, i));
        }
        x.back();
        s.due("one back", x.told(4), 3);

        s.says("Promise 14", "BAD.");
        x = new ResidualJudge();
        s.due("told(-1)", x.told(-1), BAD);
        s.due("told(5)", x.told(5), BAD);
        for (int far : FAR) {
            s.due("told(" + far + ")", x.told(far), BAD);
        }
        s.due("counted, a question too", x.told(0), 7);
    }

    // ---- Promise 15

    private void digest() {
        s.says("Promise 15", "h = 2521; then h = 31 h + v for each v:");
        List<Integer> values = newValues();
        BigInteger whole = wholeDigest(values);
        s.due("bits of h, did it not go around", whole.bitLength() > 64 ? 1 : 0, 1);
        s.due("digest of a new one", new ResidualJudge().digest(), whole.longValue());
        ResidualJudge x = new ResidualJudge();
        s.due("digest again", x.digest(), x.digest());

        s.says("Promise 15", "told(0) to told(4);");
        x.now(4);
        x.now(4);
        x.now(4);
        x.steps(0);
        x.steps(0);
        for (int i = 0; i < 151; i++) {
            x.type('a');
        }
        x.begins(8);
        x.begins(8);
        setAll(values, 0, 3, 2, 1, 150, 2);
        digestDue(x, values);
        x.digest();
        digestDue(x, values);

        s.says("Promise 15", "of SORTS and THE BOOK of(0) to of(3), rows(1) to rows(4);");
        x = s.of("^=a,(b|c)*;a=h?;h=(a|b|c|d|e|f|g|h)+;");
        values = newValues();
        setAll(values, 3, 37, 1);
        setAll(values, 5 + 8 * 8, 0, 1, 7, 1, 1, 2, 4, 8);
        setAll(values, 5, 1, 128, 128, 0, 1, 0, 0, 0);
        setAll(values, 5 + 8 * 7, 0, 255, 255, 1, 8, 64, 512, 4096);
        setAll(values, 5 + 8 * 9, 1, 0, 0, 8);
        digestDue(x, values);
        x.rows(8, 6);
        digestDue(x, values);
    }

    private void digestOfRow() {
        s.says("Promise 15", "now(0) to now(3);");
        ResidualJudge x = s.of("c=d|_;");
        x.begins(2);
        List<Integer> values = newValues();
        setAll(values, 3, 6, 2);
        setAll(values, 5 + 8 * 2, 1, 8, 8, 0, 1, 0, 0, 0);
        setAll(values, 5 + 8 * 9, 8, 1, 0, 2);
        digestDue(x, values);

        s.says("Promise 15", "THE ROW's SORTS.");
        x.steps(3);
        setAll(values, 4, 3);
        setAll(values, 5 + 8 * 9, 0, 1, 1, 2);
        values.add(3);
        digestDue(x, values);
        x.back();
        x.back();
        values = newValues();
        setAll(values, 3, 6, 1);
        setAll(values, 5 + 8 * 2, 1, 8, 8, 0, 1, 0, 0, 0);
        digestDue(x, values);
        x = s.of("^=(a|h)*;");
        values = newValues();
        setAll(values, 3, 9, 4);
        setAll(values, 5 + 8 * 8, 1, 129, 129, 0, 2, 4, 8, 16, 129, 1, 20, 8);
        for (int i = 0; i < 20; i++) {
            int sort = i % 3 == 0 ? 0 : 7;
            x.steps(sort);
            values.add(sort);
        }
        digestDue(x, values);
    }

    private void digestDue(ResidualJudge x, List<Integer> values) {
        s.due("digest of " + values, x.digest(), wholeDigest(values).longValue());
    }

    /** The digest as the document tells it, in numbers that have no bound. */
    private static BigInteger wholeDigest(List<Integer> values) {
        BigInteger h = BigInteger.valueOf(2521);
        for (int v : values) {
            h = h.multiply(BigInteger.valueOf(31)).add(BigInteger.valueOf(v));
        }
        return h;
    }

    /** What a new object's digest is made of. */
    private static List<Integer> newValues() {
        List<Integer> values = new ArrayList<>(List.of(0, 0, 0, 0, 0));
        for (int owner = 0; owner <= 8; owner++) {
            values.addAll(List.of(1, 0, 0, 0, 0, 0, 0, 0));
        }
        values.addAll(List.of(0, 1, 0, 8));
        return values;
    }

    private static void setAll(List<Integer> values, int from, int... numbers) {
        for (int i = 0; i < numbers.length; i++) {
            values.set(from + i, numbers[i]);
        }
    }
}
