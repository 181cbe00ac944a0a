/** What the document says of SORTS, PATTERNS and THE GRAMMAR, a test for each sentence. */
final class GrammarSentences {
    private static final String TERMS = "Terms";

    private final Sentences s;

    private GrammarSentences(Sentences sentences) {
        s = sentences;
    }

    static void run(Sentences sentences) {
        GrammarSentences tests = new GrammarSentences(sentences);
        tests.sorts();
        tests.rowsMayBeEmpty();
        tests.emptyAlone();
        tests.sortAlone();
        tests.behind();
        tests.either();
        tests.mixed();
        tests.perhaps();
        tests.anyTimes();
        tests.oneOrMore();
        tests.atFirst();
        tests.ordersEnded();
        tests.owners();
        tests.waysMixesTimes();
        tests.timesOnUnits();
        tests.units();
        tests.sixteenNodes();
        tests.laterOrders();
    }

    // ---- SORTS and PATTERNS

    private void sorts() {
        s.says("What it is", "SORTS a to h (0 ..");
        for (int sort = 0; sort <= 7; sort++) {
            char letter = (char) ('a' + sort);
            ResidualJudge x = s.of(letter + "=" + letter + ";^=" + letter + "?;");
            s.due("of(" + sort + ", 1)", x.of(sort, 1), 1 << sort);
            s.due("of(8, 1) of " + letter, x.of(8, 1), 1 << sort);
            s.due("steps(" + sort + ")", x.steps(sort), 0);
            Sentences.write(x, letter + "(" + letter + ")");
            s.due("place in " + letter, x.judge(1), 3);
            s.due("due in " + letter, x.judge(2), 1 << sort);
        }
        for (char sign : new char[] {'`', 'i', 'A', 'H', '0', '7', '8'}) {
            s.readsFault(sign + "=a;", 0);
            s.readsFault("a=" + sign + ";", 2);
            s.readsFault("a=a," + sign + ";", 4);
            s.bookFault(String.valueOf(sign), 0);
            s.bookFault("a(" + sign + ")", 2);
        }
    }

    private void rowsMayBeEmpty() {
        s.says(TERMS, "7). A PATTERN allows ROWS of SORTS (one may be empty):");
        s.counts("a|b,c", 0, 1, 1, 0);
        s.counts("_|b,c", 1, 0, 1, 0);
        s.allows("a|_", "", true);
        s.allows("a|b", "", false);
    }

    private void emptyAlone() {
        s.says(TERMS, "_ the empty ROW alone;");
        s.counts("_", 1, 0, 0, 0, 0, 0, 0);
        s.counts("(_)", 1, 0, 0, 0, 0, 0, 0);
        s.allows("_", "", true);
        s.allows("_", "a", false);
        s.allows("_", "h", false);
    }

    private void sortAlone() {
        s.says(TERMS, "a SORT the ROW of it alone;");
        s.counts("c", 0, 1, 0, 0, 0, 0, 0);
        s.allows("c", "c", true);
        s.allows("c", "", false);
        s.allows("c", "cc", false);
        s.allows("c", "b", false);
        s.allows("c", "d", false);
        s.allows("h", "h", true);
    }

    private void behind() {
        s.says(TERMS, "P, Q: a ROW of P, then one of Q;");
        s.allows("a,b", "ab", true);
        s.allows("a,b", "ba", false);
        s.allows("a,b", "a", false);
        s.allows("a,b", "b", false);
        s.allows("a,b", "", false);
        s.allows("a,b", "aba", false);
        s.counts("a,_", 0, 1, 0);
        s.counts("_,a", 0, 1, 0);
        s.counts("_,_", 1, 0);
        s.counts("a?,b?", 1, 2, 1, 0);
        s.counts("a?,a?", 1, 1, 1, 0);
        s.counts("(a|b),(a|b)", 0, 0, 4, 0);
        s.counts("(a,b),c", 0, 0, 0, 1);
        s.counts("a,(b,c)", 0, 0, 0, 1);
        s.allows("a*,b", "aaab", true);
        s.allows("a*,a", "aaaa", true);
        s.allows("a*,a", "", false);
    }

    private void either() {
        s.says(TERMS, "P | Q: those of P and those of Q;");
        s.allows("a|b", "a", true);
        s.allows("a|b", "b", true);
        s.allows("a|b", "ab", false);
        s.counts("a|a", 0, 1, 0);
        s.counts("_|_", 1, 0);
        s.counts("_|a", 1, 1, 0);
        s.counts("a|_", 1, 1, 0);
        s.counts("a,b|a,c|a", 0, 1, 2, 0);
        s.counts("a*|b*", 1, 2, 2, 2, 2, 2, 2);
        s.allows("a,b|a,c", "ac", true);
        s.allows("a*|b*", "ab", false);
    }

    private void mixed() {
        s.says(TERMS, "P & Q: a ROW of P and one of Q, each in its order, put into one another in any way;");
        s.counts("(a,b)&(c,d)", 0, 0, 0, 0, 6, 0);
        for (String row : new String[] {"abcd", "acbd", "acdb", "cabd", "cadb", "cdab"}) {
            s.allows("(a,b)&(c,d)", row, true);
        }
        for (String row : new String[] {"bacd", "abdc", "dcba", "adbc", "cbad", "abc", "abcdd", ""}) {
            s.allows("(a,b)&(c,d)", row, false);
        }
        s.counts("a&a", 0, 0, 1, 0);
        s.counts("(a,b)&(a,b)", 0, 0, 0, 0, 2, 0);
        s.counts("a&_", 0, 1, 0);
        s.counts("_&a", 0, 1, 0);
        s.counts("_&_", 1, 0);
        s.counts("a*&b", 0, 1, 2, 3, 4, 5, 6);
        s.counts("a*&b*", 1, 2, 4, 8, 16, 32, 64);
        s.counts("a&b&c", 0, 0, 0, 6, 0);
        s.counts("(a&b)&(c&d)", 0, 0, 0, 0, 24, 0);
    }

    private void perhaps() {
        s.says(TERMS, "P ?: those of P and the empty one;");
        s.counts("a?", 1, 1, 0, 0);
        s.counts("_?", 1, 0, 0);
        s.counts("a??", 1, 1, 0);
        s.counts("(a,b)?", 1, 0, 1, 0);
        s.counts("a+?", 1, 1, 1, 1, 1, 1, 1);
        s.allows("(a,b)?", "a", false);
        s.allows("(a,b)?", "", true);
        s.allows("(a,b)?", "abab", false);
    }

    private void anyTimes() {
        s.says(TERMS, "P *: any number of ROWS of P, one behind the other (none, too);");
        s.counts("a*", 1, 1, 1, 1, 1, 1, 1);
        s.counts("(a,b)*", 1, 0, 1, 0, 1, 0, 1);
        s.counts("(a|b)*", 1, 2, 4, 8, 16, 32, 64);
        s.counts("(a|b,b)*", 1, 1, 2, 3, 5, 8, 13);
        s.counts("_*", 1, 0, 0);
        s.counts("a?*", 1, 1, 1, 1, 1, 1, 1);
        s.counts("a**", 1, 1, 1, 1, 1, 1, 1);
        s.allows("(a,b)*", "", true);
        s.allows("(a,b)*", "aba", false);
        s.allows("(a,b)*", "aabb", false);
        s.allows("(a&b)*", "abba", true);
        s.allows("(a&b)*", "aabb", false);
        s.allows("a*", "a".repeat(20), true);
    }

    private void oneOrMore() {
        s.says(TERMS, "P +: one or more.");
        s.counts("a+", 0, 1, 1, 1, 1, 1, 1);
        s.counts("(a,b)+", 0, 0, 1, 0, 1, 0, 1);
        s.counts("_+", 1, 0, 0);
        s.counts("a?+", 1, 1, 1, 1, 1, 1, 1);
        s.counts("a*+", 1, 1, 1, 1, 1, 1, 1);
        s.counts("a++", 0, 1, 1, 1, 1, 1, 1);
        s.allows("(a,b)+", "", false);
        s.allows("(a,b)+", "abab", true);
        s.allows("(a,b)+", "aba", false);
    }

    private void atFirst() {
        s.says(TERMS, "THE GRAMMAR: to each SORT a PATTERN (at first _), and to THE BOOK (8; at first _).");
        ResidualJudge x = new ResidualJudge();
        for (int owner = 0; owner <= 8; owner++) {
            for (int what = 0; what <= 3; what++) {
                s.due("new of(" + owner + ", " + what + ")", x.of(owner, what), what == 0 ? 1 : 0);
            }
            for (int n = 0; n <= 6; n++) {
                s.due("new rows(" + owner + ", " + n + ")", x.rows(owner, n), n == 0 ? 1 : 0);
            }
            s.due("new begins(" + owner + ")", x.begins(owner), 0);
            s.due("new now(1)", x.now(1), 1);
        }
        s.judged("a=_;", "", 1, -1, 0, 1);
        s.judged("a=_;", "a", 0, 0, 0, 1);
        s.judged("^=a;", "a(b)", 0, 2, 0, 1);
        x = s.of("a=b;b=c;c=d;d=e;e=f;f=g;g=h;h=a;^=b;");
        for (int owner = 0; owner <= 8; owner++) {
            s.due("its own pattern: of(" + owner + ", 1)", x.of(owner, 1), 1 << (owner == 8 ? 1 : (owner + 1) % 8));
        }
    }

    // ---- THE GRAMMAR's TEXT

    private void ordersEnded() {
        s.says(TERMS, "THE GRAMMAR's TEXT: ORDERS, each ended by ; :");
        s.reads("a=b;", 1);
        s.reads("a=b;b=c;", 2);
        s.readsFault("a=b", 3);
        s.readsFault("a=b;b=c", 7);
        s.readsFault("a=b b=c;", 4);
        s.readsFault("a=b,b=c;", 5);
        s.readsFault("a=b;;", 4);
        s.readsFault(";", 0);
        s.readsFault(";a=b;", 0);
        s.readsFault("a=(b;)", 4);
    }

    private void owners() {
        s.says(TERMS, "a letter a to h, or ^ (THE BOOK), then =, then a PATTERN:");
        ResidualJudge x = s.of("^=a;h=b;a=c;");
        s.due("of(8, 1)", x.of(8, 1), 1);
        s.due("of(7, 1)", x.of(7, 1), 2);
        s.due("of(0, 1)", x.of(0, 1), 4);
        s.readsFault("=a;", 0);
        s.readsFault("_=a;", 0);
        s.readsFault("(a)=a;", 0);
        s.readsFault("ab=a;", 1);
        s.readsFault("^^=a;", 1);
        s.readsFault("aa;", 1);
        s.readsFault("a;", 1);
        s.readsFault("a==a;", 2);
        s.readsFault("a=;", 2);
        s.readsFault("a=^;", 2);
        s.readsFault("a=b=c;", 3);
    }

    private void waysMixesTimes() {
        s.says(TERMS, "WAYS with | between; a WAY: MIXES with & between; a MIX: TIMES with , between;");
        // a | (b & (c, d)), and the other way round
        s.counts("a|b&c,d", 0, 1, 0, 3, 0);
        s.counts("c,d&b|a", 0, 1, 0, 3, 0);
        // (a, b) & (c, d) | e, with brackets that bind otherwise
        s.counts("a,b&c,d|e", 0, 1, 0, 0, 6);
        s.counts("a,(b&c),d|e", 0, 1, 0, 0, 2);
        s.counts("a,b&(c,d|e)", 0, 0, 0, 3, 6);
        s.counts("(a|b)&c", 0, 0, 4, 0);
        s.counts("a|b&c", 0, 1, 2, 0);
        s.counts("a|b,c", 0, 1, 1, 0);
        s.counts("a&b,c", 0, 0, 0, 3);
        s.allows("a&b,c", "bac", true);
        s.allows("(a&b),c", "bca", false);
        for (char sign : "|&,".toCharArray()) {
            s.readsFault("a=" + sign + "b;", 2);
            s.readsFault("a=b" + sign + ";", 4);
            s.readsFault("a=b" + sign + sign + "b;", 4);
            s.readsFault("a=(" + sign + "b);", 3);
            s.readsFault("a=(b" + sign + ");", 5);
        }
        s.readsFault("a=bc;", 3);
        s.readsFault("a=b_;", 3);
        s.readsFault("a=b(c);", 3);
        s.readsFault("a=(b)c;", 5);
        s.readsFault("a=b*c;", 4);
    }

    private void timesOnUnits() {
        s.says(TERMS, "a TIMES: a UNIT, then ?, * or +, any number of times;");
        s.counts("a,b*", 0, 1, 1, 1);
        s.counts("(a,b)*", 1, 0, 1, 0);
        s.counts("a&b+", 0, 0, 2, 3);
        s.counts("a|b?", 1, 2, 0, 0);
        s.counts("a,b?", 0, 1, 1, 0);
        s.counts("a?+*", 1, 1, 1, 1);
        s.reads("a=b???????????????;", 1);
        s.reads("a=b+*?+*?+*?+*?+*?;", 1);
        for (char sign : "?*+".toCharArray()) {
            s.readsFault("a=" + sign + ";", 2);
            s.readsFault("a=" + sign + "b;", 2);
            s.readsFault("a=(" + sign + "b);", 3);
            s.readsFault("a=b," + sign + ";", 4);
            s.reads("a=(b)" + sign + ";", 1);
            s.reads("a=_" + sign + ";", 1);
        }
    }

    private void units() {
        s.says(TERMS, "a UNIT: _, a letter a to h, or ( PATTERN ).");
        s.counts("(((a)))", 0, 1, 0);
        s.counts("(a|(b,c))", 0, 1, 1);
        s.counts("(_)", 1, 0);
        s.readsFault("a=();", 3);
        s.readsFault("a=(());", 4);
        s.readsFault("a=(b;", 4);
        s.readsFault("a=b);", 3);
        s.readsFault("a=(b));", 5);
        s.readsFault("a=);", 2);
        s.readsFault("a=(b=c);", 4);
        s.readsFault("a=[b];", 2);
    }

    private void sixteenNodes() {
        s.says(TERMS, "A PATTERN has 16 NODES at most (_, letters, operators).");
        String fifteen = "a,b,c,d,e,f,g,h";
        for (char sign : "?*+".toCharArray()) {
            s.reads("a=" + fifteen + sign + ";", 1);
            s.readsFault("a=" + fifteen + sign + sign + ";", 18);
        }
        for (char sign : "|&,".toCharArray()) {
            String row = ("b" + sign).repeat(7) + "b";
            s.reads("a=" + row + ";", 1);
            s.readsFault("a=" + row + sign + "b;", 18);
            s.readsFault("a=" + row + "*" + sign + "b;", 18);
        }
        // Each of them counts, brackets do not, and each PATTERN is counted for itself.
        s.reads("a=_,_,_,_,_,_,_,_*;", 1);
        s.readsFault("a=_,_,_,_,_,_,_,_,_;", 18);
        s.reads("a=((a)),(b,((c),d),e),(f),(g,h)*;", 1);
        s.reads("a=" + fifteen + "*;b=" + fifteen + "*;^=" + fifteen + "?;", 3);
        ResidualJudge x = s.of("^=" + fifteen + "*;a=a&b&c&d&e&f&g&h?;b=(a|b|c|d|e|f|g|h)*;c=a***************;");
        s.due("shortest of 16 nodes", x.of(8, 3), 7);
        s.due("shortest of 16 nodes", x.of(0, 3), 7);
        s.due("rows of 16 nodes", x.rows(1, 6), 262144);
        s.due("rows of 16 nodes", x.rows(2, 6), 1);
        s.due("sorts of 16 nodes", x.of(0, 1), 255);
    }

    private void laterOrders() {
        s.says(TERMS, "A later ORDER of one SORT goes over an earlier one.");
        ResidualJudge x = s.of("a=b,c,d,e,f,g,h,a*;b=c;a=d;");
        s.due("of(0, 2)", x.of(0, 2), 8);
        s.due("of(0, 3)", x.of(0, 3), 1);
        s.due("rows(0, 1)", x.rows(0, 1), 1);
        s.due("of(1, 2), told once", x.of(1, 2), 4);
        s.reads("a=b;a=c;a=d;", 3);
        x = s.of("^=a;^=b;^=_;");
        s.due("of(8, 2)", x.of(8, 2), 0);
        x = s.of("^=a;b=c;");
        s.due("a second text", Sentences.read(x, "^=d;"), 1);
        s.due("of(8, 2)", x.of(8, 2), 8);
        s.due("of(1, 2), not told anew", x.of(1, 2), 4);
    }
}
