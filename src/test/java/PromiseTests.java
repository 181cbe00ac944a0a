/** For each promise of the document its ordinary inputs, its edges and wrong inputs, with the answers written out. */
public final class PromiseTests {
    private static int wrong;
    private static int checks;

    public static void main(String[] args) {
        newObject();
        type();
        clear();
        reads();
        readsFaults();
        readsNodesAndBrackets();
        clears();
        of();
        rows();
        judge();
        judgeOrder();
        judgeFaults();
        mark();
        begins();
        steps();
        now();
        back();
        told();
        digest();
        System.out.println("PromiseTests: " + (checks - wrong) + " answers as due, " + wrong + " not");
        if (wrong != 0) {
            System.exit(1);
        }
    }

    private static void due(String what, long got, long want) {
        checks++;
        if (got != want) {
            wrong++;
            System.out.println(what + " answered " + got + ", due is " + want);
        }
    }

    private static void write(ResidualJudge x, String text) {
        x.clear();
        for (int i = 0; i < text.length(); i++) {
            x.type(text.charAt(i));
        }
    }

    private static int read(ResidualJudge x, String text) {
        write(x, text);
        return x.reads();
    }

    private static ResidualJudge of(String grammar) {
        ResidualJudge x = new ResidualJudge();
        read(x, grammar);
        return x;
    }

    private static void readDue(String text, int want) {
        due("reads of '" + text + "'", read(new ResidualJudge(), text), want);
    }

    /** judge(0) to judge(5), in a row. */
    private static void judgeDue(ResidualJudge x, String text, int... want) {
        write(x, text);
        for (int what = 0; what < want.length; what++) {
            due("judge(" + what + ") of '" + text + "'", x.judge(what), want[what]);
        }
    }

    private static void markDue(ResidualJudge x, String text, float want) {
        write(x, text);
        due("mark of '" + text + "'", x.mark(), Float.floatToIntBits(want));
    }

    private static void newObject() {
        ResidualJudge x = new ResidualJudge();
        for (int what = 0; what <= 4; what++) {
            due("new told", x.told(what), 0);
        }
        for (int i = 0; i <= 8; i++) {
            due("new of 0", x.of(i, 0), 1);
            due("new of 1", x.of(i, 1), 0);
            due("new of 2", x.of(i, 2), 0);
            due("new of 3", x.of(i, 3), 0);
            due("new rows 0", x.rows(i, 0), 1);
            due("new rows 1", x.rows(i, 1), 0);
        }
        due("new now 0", x.now(0), 0);
        due("new now 1", x.now(1), 1);
        due("new now 2", x.now(2), 0);
        due("new now 3", x.now(3), 8);
        due("new clear", x.clear(), 0);
        due("new back", x.back(), -3);
        ResidualJudge y = new ResidualJudge();
        read(x, "^=a;");
        due("another object's grammar", y.of(8, 2), 0);
    }

    private static void type() {
        ResidualJudge x = new ResidualJudge();
        due("type 0", x.type(0), 1);
        due("type 127", x.type(127), 2);
        due("type -1", x.type(-1), -2);
        due("type 128", x.type(128), -2);
        due("type least", x.type(Integer.MIN_VALUE), -2);
        due("type most", x.type(Integer.MAX_VALUE), -2);
        for (int i = 3; i <= 150; i++) {
            due("type", x.type('a'), i);
        }
        due("type 151", x.type('a'), -4);
        due("type 151, bad", x.type(128), -2);
        due("bytes", x.told(3), 150);
        due("bad", x.told(0), 5);
        due("full", x.told(2), 1);
        due("no state by it", x.told(4), 0);
    }

    private static void clear() {
        ResidualJudge x = new ResidualJudge();
        write(x, "^=a;");
        due("clear", x.clear(), 4);
        due("clear again", x.clear(), 0);
        due("no state by it", x.told(4), 0);
        due("type behind", x.type('a'), 1);
    }

    private static void reads() {
        readDue("^=_;", 1);
        readDue(" ^ = ( a , b ) * ; h = _ ; ", 2);
        readDue("a=b;a=c;a=d;", 3);
        ResidualJudge x = of("a=b;a=c;^=a|b,c&d;");
        due("the later order", x.of(0, 1), 4);
        due("text stays", x.told(3), 18);
        due("one state", x.told(4), 1);
        // a | ((b,c) & d)
        due("bindings: length 1", x.rows(8, 1), 1);
        due("bindings: length 3", x.rows(8, 3), 3);
        x = of("^=a,b*;");
        due("times bind first", x.rows(8, 3), 1);
        x = of("^=(a,b)*;");
        due("brackets", x.rows(8, 4), 1);
        due("brackets", x.rows(8, 3), 0);
        x = of("^=a?+;");
        due("times on times", x.rows(8, 5), 1);
        due("times on times", x.of(8, 0), 1);
        x = of("^=a,b;");
        x.begins(0);
        due("read once more", x.reads(), 1);
        due("the row is THE BOOK's", x.now(3), 8);
        due("others stay", read(x, "a=c;"), 1);
        due("others stay", x.of(8, 1), 1);
        x.begins(8);
        x.steps(0);
        due("a state", x.told(4), 4);
        due("the row empty", read(x, "h=h;"), 1);
        due("the row empty", x.now(2), 0);
        due("a fault", read(x, "^=c;^=d"), -17);
        due("nothing by a fault", x.of(8, 1), 1);
        due("nothing counts by a fault", x.told(0) + x.told(1) + x.told(2), 0);
    }

    private static void readsFaults() {
        readDue("", -10);
        readDue("   ", -13);
        readDue("^", -11);
        readDue("^=", -12);
        readDue("^=a", -13);
        readDue("^=a ", -14);
        readDue(";", -10);
        readDue("=a;", -10);
        readDue("_=a;", -10);
        readDue("i=a;", -10);
        readDue("A=a;", -10);
        readDue("a a;", -12);
        readDue("a==;", -12);
        readDue("a=;", -12);
        readDue("a=^;", -12);
        readDue("a=i;", -12);
        readDue("a=*;", -12);
        readDue("a=|b;", -12);
        readDue("a=b|;", -14);
        readDue("a=b||c;", -14);
        readDue("a=b&,c;", -14);
        readDue("a=bc;", -13);
        readDue("a=b_;", -13);
        readDue("a=b(c);", -13);
        readDue("a=();", -13);
        readDue("a=(b;", -14);
        readDue("a=b);", -13);
        readDue("a=(b));", -15);
        readDue("a=b;;", -14);
        readDue("a=b;c", -15);
        readDue("a=b; ", 1);
        readDue("a=b;\t", -14);
        readDue("a=b=c;", -13);
        readDue("a=b;" + (char) 0, -14);
        ResidualJudge x = new ResidualJudge();
        due("a fault", read(x, "a=b;b=*"), -16);
        due("no state by a fault", x.told(4), 0);
        due("nothing done by a fault", x.of(0, 2), 0);
    }

    private static void readsNodesAndBrackets() {
        readDue("a=b,b,b,b,b,b,b,b*;", 1);
        readDue("a=b,b,b,b,b,b,b,b*+;", -28);
        readDue("a=b,b,b,b,b,b,b,b*,b;", -28);
        readDue("a=b,b,b,b,b,b,b,b,b;", -28);
        readDue("a=b,b,b,b,b,b,b,b,_;", -28);
        readDue("a=b,b,b,b,b,b,b,b,(((b)));", -31);
        readDue("a=b,b,b,b,b,b,b,b,);", -28);
        readDue("a=b***************;", 1);
        readDue("a=b****************;", -28);
        readDue("a=b***************,b;", -28);
        readDue("a=_***************;b=_***************;", 2);
        readDue("a=((((((((b))))))));", 1);
        readDue("a=(((((((((b)))))))));", -20);
        readDue("a=((((((((b)))))))),((((((((b))))))));", 1);
        readDue("a=( ((((((( b|c ))))))) ),d;", 1);
    }

    private static void clears() {
        ResidualJudge x = of("^=a,b;a=c;h=d;");
        x.begins(8);
        x.steps(0);
        due("clears", x.clears(0), 1);
        due("cleared", x.of(0, 2), 0);
        due("not cleared", x.of(8, 2), 3);
        due("the row is empty", x.now(2), 0);
        due("the row's", x.now(3), 8);
        x.begins(7);
        due("clears the book", x.clears(8), 1);
        due("cleared", x.of(8, 1), 0);
        due("of the book", x.now(3), 8);
        due("clears an empty one", x.clears(8), 1);
        due("back", x.back(), 3);
        due("clears", x.clears(7), 1);
        due("clears 9", x.clears(9), -2);
        due("clears -1", x.clears(-1), -2);
        due("bad", x.told(0), 2);
        due("states", x.told(4), 4);
    }

    private static void of() {
        ResidualJudge x = of("^=(a?,b)|c&d+;a=_;b=b*;c=(a|_),(b?&c*);h=h,h,h;");
        int[][] want = {{1, 0, 0, 0}, {1, 2, 2, 0}, {1, 7, 7, 0}, {0, 128, 128, 3}, {0, 15, 15, 1}};
        int[] whose = {0, 1, 2, 7, 8};
        for (int i = 0; i < whose.length; i++) {
            for (int what = 0; what <= 3; what++) {
                due("of(" + whose[i] + ", " + what + ")", x.of(whose[i], what), want[i][what]);
            }
        }
        due("of(9, 0)", x.of(9, 0), -2);
        due("of(-1, 0)", x.of(-1, 0), -2);
        due("of(0, 4)", x.of(0, 4), -2);
        due("of(0, -1)", x.of(0, -1), -2);
        due("bad", x.told(0), 4);
        x = of("^=a&b&c&d&e&f&g&h;");
        due("all mixed", x.of(8, 1), 255);
        due("all mixed", x.of(8, 3), 8);
    }

    private static void rows() {
        ResidualJudge x = of("^=(a|b|c|d|e|f|g|h)+;a=a&a&a;b=a*,a*,a*;c=(a,b)&(a,b);d=(a|a,b)*,(b|_);");
        due("all rows", x.rows(8, 6), 262144);
        due("no empty row", x.rows(8, 0), 0);
        due("one row, mixed in many ways", x.rows(0, 3), 1);
        due("one row, cut in many ways", x.rows(1, 6), 1);
        due("rows told once", x.rows(2, 4), 2);
        due("rows told once", x.rows(3, 1), 2);
        due("rows told once", x.rows(3, 2), 2);
        due("rows told once", x.rows(3, 3), 4);
        due("shorter behind longer", x.rows(8, 2), 64);
        x = of("^=a&b&c&d&e&f&g&h;a=(a&b&c&d&e&f&g)*;b=(a&b)*&(c&d)*;");
        due("too short", x.rows(8, 6), 0);
        due("too short", x.rows(0, 6), 0);
        due("two loops mixed", x.rows(1, 4), 4 + 4 + 24);
        due("rows(9, 0)", x.rows(9, 0), -2);
        due("rows(-1, 0)", x.rows(-1, 0), -2);
        due("rows(0, -1)", x.rows(0, -1), -2);
        due("rows(0, 7)", x.rows(0, 7), -2);
        due("bad", x.told(0), 4);
        due("rows follow the grammar", read(x, "b=a;"), 1);
        due("rows follow the grammar", x.rows(1, 4), 0);
        due("rows go back", x.back(), 1);
        due("rows go back", x.rows(1, 4), 32);
    }

    private static void judge() {
        ResidualJudge x = of("^=a,(b|c)*,d?;a=e&f;b=a+;");
        judgeDue(x, "a(fe)bc", 0, 6, 1, 0, 5, 2);
        judgeDue(x, "a(fe)b(a(ef))c", 1, -1, 0, 1, 8, 3);
        judgeDue(x, "a(f)c", 0, 3, 16, 0, 3, 2);
        judgeDue(x, "a(fea)c", 0, 4, 0, 1, 5, 2);
        judgeDue(x, "b", 0, 0, 1, 0, 1, 1);
        judgeDue(x, "", 0, 0, 1, 0, 0, 0);
        judgeDue(x, "   ", 0, 3, 1, 0, 0, 0);
        judgeDue(x, "a(ef)dc", 0, 6, 0, 1, 5, 2);
        judgeDue(x, "a(ef)c()d()", 1, -1, 0, 1, 5, 2);
        judgeDue(x, "a(ef)e", 0, 5, 14, 1, 4, 2);
        due("judge(6)", x.judge(6), -2);
        due("judge(-1)", x.judge(-1), -2);
        due("bad", x.told(0), 2);
        due("no state by it", x.told(4), 1);
        ResidualJudge empty = new ResidualJudge();
        judgeDue(empty, "", 1, -1, 0, 1, 0, 0);
        judgeDue(empty, "h", 0, 0, 0, 1, 1, 1);
        x = of("^=a;a=a?;");
        judgeDue(x, "a(a(a(a(a(a(a(a(a))))))))", 1, -1, 0, 1, 9, 9);
    }

    private static void judgeOrder() {
        ResidualJudge x = of("^=a,b;a=c;b=_;");
        // The bare a ends at the place of the next byte that is not blank, ahead of the letter there.
        judgeDue(x, "a  h", 0, 3, 4, 0, 2, 1);
        judgeDue(x, "a", 0, 1, 4, 0, 1, 1);
        judgeDue(x, "a  ", 0, 3, 4, 0, 1, 1);
        judgeDue(x, "a ()", 0, 3, 4, 0, 1, 1);
        judgeDue(x, "a( )  ", 0, 3, 4, 0, 1, 1);
        judgeDue(x, "a(c)  ", 0, 6, 2, 0, 2, 2);
        judgeDue(x, "a(c)h(", -16);
        judgeDue(x, "a(c)  h", 0, 6, 2, 0, 3, 2);
        x = of("^=a;a=a,a|b;b=c;c=d;");
        // At one place the ends of c, of b, of a: the inner one is told.
        judgeDue(x, "a(b(c))", 0, 5, 8, 0, 3, 3);
        judgeDue(x, "a(b(c(d)))", 1, -1, 0, 1, 4, 4);
        judgeDue(x, "a(b())", 0, 4, 4, 0, 2, 2);
        judgeDue(x, "a(b)", 0, 3, 4, 0, 2, 2);
        judgeDue(x, "a(a(b(c(d))))", 0, 12, 1, 0, 5, 5);
        judgeDue(x, "h(h)", 0, 0, 1, 0, 2, 2);
    }

    private static void judgeFaults() {
        ResidualJudge x = of("^=h*;h=h*;");
        judgeDue(x, "(", -10);
        judgeDue(x, ")", -10);
        judgeDue(x, "h)", -11);
        judgeDue(x, "h(", -12);
        judgeDue(x, "h( ", -13);
        judgeDue(x, "h(()", -12);
        judgeDue(x, "h()()", -13);
        judgeDue(x, "h,h", -11);
        judgeDue(x, "i", -10);
        judgeDue(x, "a i", -12);
        judgeDue(x, "h\t", -11);
        judgeDue(x, "_", -10);
        judgeDue(x, "h(h(h(h(h(h(h(h(h))))))))", 1, -1, 0, 1, 9, 9);
        judgeDue(x, "h(h(h(h(h(h(h(h(h(h)))))))))", -27, -27, -27, -27, -27, -27);
        due("nothing counts by a fault", x.told(0) + x.told(1) + x.told(2), 0);
        due("bad ahead of a fault", x.judge(6), -2);
        due("mark of it", x.mark(), -27);
    }

    private static void mark() {
        ResidualJudge x = of("^=a*;");
        markDue(x, "", 1f);
        markDue(x, " ", 1f);
        markDue(x, "aaa", 1f);
        markDue(x, "aab", 2f / 3f);
        markDue(x, "baa", 0f);
        markDue(x, "aaaaaab", 6f / 7f);
        markDue(x, "abbbbbb", 1f / 7f);
        markDue(x, "a(h)aa", 1f / 4f);
        StringBuilder longest = new StringBuilder("ab");
        for (int i = 2; i < 150; i++) {
            longest.append('a');
            if (i > 140) {
                markDue(x, longest.toString(), 1f / (i + 1f));
            }
        }
        for (int all = 1; all <= 60; all++) {
            for (int ahead = 0; ahead < all; ahead += 7) {
                markDue(x, "a".repeat(ahead) + "b" + "a".repeat(all - ahead - 1), (float) ahead / (float) all);
            }
        }
        markDue(of("^=a;"), "", 0f);
        markDue(of("^=a,a;"), "a", 1f);
        write(x, "a)");
        due("mark of a fault", x.mark(), -11);
        due("nothing counts by a fault", x.told(0), 0);
    }

    private static void begins() {
        ResidualJudge x = of("^=a|b;c=d?,e;");
        due("begins 8", x.begins(8), 3);
        due("begins 2", x.begins(2), 24);
        due("begins 7", x.begins(7), 0);
        due("whose", x.now(3), 7);
        due("begins 9", x.begins(9), -2);
        due("begins -1", x.begins(-1), -2);
        due("states", x.told(4), 4);
        due("bad", x.told(0), 2);
        due("begins", x.begins(8), 3);
        due("steps", x.steps(1), 0);
        due("begins anew", x.begins(8), 3);
        due("length", x.now(2), 0);
    }

    private static void steps() {
        ResidualJudge x = of("^=(a,b)&c*;a=h*;");
        due("step", x.steps(2), 5);
        due("step", x.steps(0), 6);
        due("no", x.steps(0), -3);
        due("bad", x.steps(8), -2);
        due("bad", x.steps(-1), -2);
        due("length", x.now(2), 2);
        due("step", x.steps(1), 4);
        due("ending", x.now(1), 1);
        due("states", x.told(4), 4);
        due("begins", x.begins(0), 128);
        for (int i = 0; i < 20; i++) {
            due("step", x.steps(7), 128);
        }
        due("full", x.steps(7), -4);
        due("no ahead of full", x.steps(0), -3);
        due("bad ahead of full", x.steps(8), -2);
        due("length", x.now(2), 20);
        due("due of a full row", x.now(0), 128);
        due("told bad", x.told(0), 3);
        due("told no", x.told(1), 2);
        due("told full", x.told(2), 1);
        due("back", x.back(), 3);
        due("length", x.now(2), 19);
        due("step", x.steps(7), 128);
    }

    private static void now() {
        ResidualJudge x = of("^=a?,b;c=d;");
        due("due", x.now(0), 3);
        due("ending", x.now(1), 0);
        due("length", x.now(2), 0);
        due("whose", x.now(3), 8);
        x.steps(1);
        due("due", x.now(0), 0);
        due("ending", x.now(1), 1);
        due("length", x.now(2), 1);
        x.begins(2);
        due("whose", x.now(3), 2);
        due("now 4", x.now(4), -2);
        due("now -1", x.now(-1), -2);
        due("bad", x.told(0), 2);
    }

    private static void back() {
        ResidualJudge x = new ResidualJudge();
        due("none", x.back(), -3);
        read(x, "^=a,b;");
        x.steps(0);
        x.clears(8);
        due("states", x.told(4), 3);
        due("back to the row", x.back(), 2);
        due("the row", x.now(2), 1);
        due("the grammar", x.of(8, 2), 3);
        due("due", x.now(0), 2);
        due("back ahead of the step", x.back(), 1);
        due("the row", x.now(2), 0);
        due("back to the beginning", x.back(), 0);
        due("the grammar", x.of(8, 2), 0);
        due("the text stays", x.told(3), 6);
        due("none", x.back(), -3);
        due("told no", x.told(1), 2);
        for (int i = 0; i < 7; i++) {
            x.begins(i);
        }
        due("four at most", x.told(4), 4);
        due("back", x.back(), 3);
        due("whose", x.now(3), 5);
        x.begins(0);
        due("four again", x.told(4), 4);
        for (int i = 3; i >= 0; i--) {
            due("back", x.back(), i);
        }
        due("the oldest that is kept", x.now(3), 2);
        due("none", x.back(), -3);
    }

    private static void told() {
        ResidualJudge x = new ResidualJudge();
        due("told 5", x.told(5), -2);
        due("told -1", x.told(-1), -2);
        due("bad", x.told(0), 2);
        x.steps(0);
        x.back();
        due("no", x.told(1), 2);
        for (int i = 0; i < 152; i++) {
            x.type('a');
        }
        due("full", x.told(2), 2);
        due("bytes", x.told(3), 150);
        x.clears(0);
        due("states", x.told(4), 1);
        due("questions change nothing", x.told(0), 2);
    }

    private static void digest() {
        ResidualJudge x = of("^=(a&b)*,c?;a=b+;h=_;");
        x.steps(0);
        x.steps(1);
        x.steps(2);
        x.steps(7);
        x.now(9);
        due("digest", x.digest(), digestOf(x));
        due("a digest changes nothing", x.digest(), digestOf(x));
        due("a new one's", new ResidualJudge().digest(), digestOf(new ResidualJudge()));
        long before = x.digest();
        x.back();
        due("another row, another digest", x.digest() != before ? 1 : 0, 1);
    }

    /** The digest from the answers of the other calls; the row told is 0, 1, 2 or empty, as digest() has it above. */
    private static long digestOf(ResidualJudge x) {
        long h = 2521;
        for (int what = 0; what <= 4; what++) {
            h = 31 * h + x.told(what);
        }
        for (int i = 0; i <= 8; i++) {
            for (int what = 0; what <= 3; what++) {
                h = 31 * h + x.of(i, what);
            }
            for (int n = 1; n <= 4; n++) {
                h = 31 * h + x.rows(i, n);
            }
        }
        for (int what = 0; what <= 3; what++) {
            h = 31 * h + x.now(what);
        }
        for (int i = 0; i < x.now(2); i++) {
            h = 31 * h + i;
        }
        return h;
    }
}
