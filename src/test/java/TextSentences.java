/** What the document says of THE TEXT, its FAULTS, STATES and refusals, a test for each sentence. */
final class TextSentences {
    private static final String TERMS = "Terms";

    private final Sentences s;

    private TextSentences(Sentences sentences) {
        s = sentences;
    }

    static void run(Sentences sentences) {
        TextSentences tests = new TextSentences(sentences);
        tests.textOfBoth();
        tests.blanks();
        tests.faultPlace();
        tests.faultOfNodes();
        tests.faultOfBrackets();
        tests.faultOfEarlyEnd();
        tests.faultOfNoOrders();
        tests.statesLeft();
        tests.statesOfNoChange();
        tests.statesHold();
        tests.fourStates();
        tests.refusedChangesNothing();
        tests.orderOfRefusals();
        tests.faultsDoNotCount();
        tests.calls();
        tests.constants();
    }

    // ---- THE TEXT

    private void textOfBoth() {
        s.says(TERMS, "THE TEXT (150 bytes at most) is a BOOK, or of THE GRAMMAR, as it is asked for.");
        ResidualJudge x = new ResidualJudge();
        Sentences.write(x, "^=a;");
        s.due("reads of it", x.reads(), 1);
        s.due("judge of it", x.judge(0), -10);
        s.due("mark of it", x.mark(), -10);
        s.due("reads once more", x.reads(), 1);
        Sentences.write(x, "a");
        s.due("judge of it", x.judge(0), 1);
        s.due("reads of it", x.reads(), -11);
        s.due("judge once more", x.judge(0), 1);
        // 150 bytes are read to the last one, in both.
        s.reads(" ".repeat(146) + "a=b;", 1);
        s.reads("a=" + " ".repeat(146) + "b;", 1);
        s.readsFault(" ".repeat(146) + "a=b,", 150);
        s.readsFault(" ".repeat(146) + "a=b)", 149);
        s.judged("^=h*;h=h*;", "h".repeat(147) + "(h)", 1, -1, 0, 1, 148, 2);
        s.bookFault("h".repeat(149) + "(", 150);
        s.bookFault("h".repeat(149) + ")", 149);
        Sentences.write(x, "a".repeat(150) + ")");
        s.due("a 151st byte is not in it", x.judge(4), 150);
    }

    private void blanks() {
        s.says(TERMS, "Blanks (32) may stand anywhere.");
        String orders = "^=(a,b)*&_|c?,(d+);h=a;";
        String apart = " " + String.join("  ", orders.split("")) + "   ";
        s.reads(orders, 2);
        s.reads(apart, 2);
        ResidualJudge x = s.of(orders);
        ResidualJudge y = s.of(apart);
        for (int what = 0; what <= 3; what++) {
            s.due("of(8, " + what + ") with blanks", y.of(8, what), x.of(8, what));
        }
        for (int n = 0; n <= 6; n++) {
            s.due("rows(8, " + n + ") with blanks", y.rows(8, n), x.rows(8, n));
        }
        s.judged("^=a,b;a=c,c;", "  a  (  c  c  (  )  )  b  ", 1, -1, 0, 1, 4, 2);
        s.reads(" a=b;", 1);
        s.reads("a=b; ", 1);
        s.reads("a = b * * ; ", 1);
        s.isWell("^=a;", " a  ");
        for (char c = 0; c <= 127; c++) {
            boolean isLetter = c >= 'a' && c <= 'h';
            if (!isLetter && c != ' ' && c != '(') {
                s.bookFault(" a " + c, 3);
            }
            if (!isLetter && c != ' ' && c != '^') {
                s.readsFault(" a=b;" + c, 5);
            }
        }
    }

    // ---- FAULTS

    private void faultPlace() {
        s.says(TERMS, "FAULT: the place of the first byte that can not stand there");
        s.readsFault("*", 0);
        s.readsFault("a=b;*;*", 4);
        s.readsFault("   a  =  *", 9);
        s.readsFault("a=b,,c,,", 4);
        s.readsFault(" ".repeat(149) + "*", 149);
        s.bookFault("*", 0);
        s.bookFault("  a  * *", 5);
        s.bookFault("a(b))c)", 4);
        s.bookFault("a".repeat(149) + "*", 149);
        // It is told ahead of every FLAW, and of an end that is too early.
        s.bookFault("hhh(h*", 5);
        for (char sign : new char[] {0, 31, 33, 127, '\t', '\n'}) {
            s.readsFault("a=b" + sign + ";", 3);
            s.bookFault("ab" + sign, 2);
        }
    }

    private void faultOfNodes() {
        s.says(TERMS, "(the letter, _, operator by which a PATTERN would have more than 16 NODES;");
        String sixteen = "a=b,b,b,b,b,b,b,b*";
        String open = "a=b,b,b,b,b,b,b,b,";
        for (char sign : "?*+|&,".toCharArray()) {
            s.readsFault(sixteen + sign, 18);
            s.readsFault(sixteen + "  " + sign, 20);
        }
        s.readsFault(open + "b;", 18);
        s.readsFault(open + "h", 18);
        s.readsFault(open + "_;", 18);
        s.readsFault(open + "  b;", 20);
        // A bracket is no NODE: the FAULT is at the letter in it.
        s.readsFault(open + "(b);", 19);
        s.readsFault(open + "((_));", 20);
        s.reads("a=(b,b,b,b,b,b,b,b*);", 1);
        s.readsFault("a=(b,b,b,b,b,b,b,b*)*;", 20);
        // What can not stand there at all is a FAULT as ever; so is an end.
        s.readsFault(open + ");", 18);
        s.readsFault(open + ";", 18);
        s.readsFault(open, 18);
        s.readsFault(sixteen, 18);
        s.readsFault("b=a;" + sixteen.replace("a=", "c=") + "*;", 22);
        s.readsFault("a=_****************;", 18);
    }

    private void faultOfBrackets() {
        s.says(TERMS, "a 9th ( open);");
        String eight = "(".repeat(8);
        String closed = ")".repeat(8);
        s.reads("a=" + eight + "b" + closed + ";", 1);
        s.readsFault("a=" + eight + "(b)" + closed + ";", 10);
        s.readsFault("a=" + eight + "(", 10);
        s.readsFault("a= ( ( ( ( ( ( ( ( (", 19);
        s.readsFault("a=" + eight + "b,(b)" + closed + ";", 12);
        // Those that are closed are not open, in one PATTERN or two.
        s.reads("a=" + eight + "b" + closed + "," + eight + "b" + closed + ";", 1);
        s.reads("a=" + eight + "b),(b),(b)" + ")".repeat(7) + ";", 1);
        s.reads("a=" + eight + "b" + closed + ";b=" + eight + "b" + closed + ";", 2);
        String parts = "h(".repeat(8);
        s.judged("^=h*;h=h*;", parts + "h" + closed, 1, -1, 0, 1, 9, 9);
        s.judged("^=h*;h=h*;", parts + closed + parts + closed, 1, -1, 0, 1, 16, 8);
        s.judged("^=h*;h=h*;", parts + ")h(h)" + ")".repeat(7), 1, -1, 0, 1, 10, 9);
        s.bookFault(parts + "h()" + closed, 17);
        s.bookFault(parts + "h(h(h", 17);
        s.bookFault(parts + "hh  (", 20);
        s.bookFault(parts + ")h(h(", 20);
    }

    private void faultOfEarlyEnd() {
        s.says(TERMS, "the TEXT's length, if it ends too early");
        String orders = "^=(a,b)*&_|c?,(d+);";
        for (int length = 1; length < orders.length(); length++) {
            s.readsFault(orders.substring(0, length), length);
            s.readsFault(orders + orders.substring(0, length) + " ", orders.length() + length + 1);
        }
        s.reads(orders, 1);
        String book = "a(b(c)d())";
        for (int length = 2; length < book.length(); length++) {
            s.bookFault(book.substring(0, length), length);
            s.bookFault(book.substring(0, length) + "  ", length + 2);
        }
        s.judged("^=_;", book, 0, 0, 0, 1, 4, 3);
        s.readsFault("a=(" + " ".repeat(147), 150);
        s.bookFault("a(" + " ".repeat(148), 150);
    }

    private void faultOfNoOrders() {
        s.says(TERMS, "(of THE GRAMMAR an empty one, one of blanks alone, too).");
        s.reads("", -10);
        s.reads(" ", -11);
        s.reads("  ", -12);
        s.reads(" ".repeat(150), -160);
        ResidualJudge x = new ResidualJudge();
        s.due("reads of a new one", x.reads(), -10);
        s.due("states by it", x.told(4), 0);
        // Not so of a BOOK.
        s.isWell("^=_;", "");
        s.isWell("^=_;", " ".repeat(150));
    }

    // ---- STATES

    private void statesLeft() {
        s.says(TERMS, "STATES: each call told S, if it is not refused, leaves one,");
        ResidualJudge x = new ResidualJudge();
        Sentences.write(x, "^=a;");
        s.due("type, clear leave none", x.told(4), 0);
        x.reads();
        s.due("reads leaves one", x.told(4), 1);
        x.clears(3);
        s.due("clears leaves one", x.told(4), 2);
        x.begins(8);
        s.due("begins leaves one", x.told(4), 3);
        x.steps(0);
        s.due("steps leaves one", x.told(4), 4);
        x.back();
        x.back();
        s.due("back leaves none", x.told(4), 2);
        s.due("refused clears", x.clears(9), ResidualJudge.BAD);
        s.due("refused begins", x.begins(-1), ResidualJudge.BAD);
        s.due("refused steps", x.steps(8), ResidualJudge.BAD);
        s.due("refused steps", x.steps(7), ResidualJudge.NO);
        s.due("refused ones leave none", x.told(4), 2);
        x.of(8, 1);
        x.rows(8, 1);
        x.judge(0);
        x.mark();
        x.now(0);
        x.digest();
        x.clear();
        x.type('a');
        s.due("calls not told S leave none", x.told(4), 2);
        s.due("reads with a fault", x.reads(), -11);
        s.due("a fault leaves none", x.told(4), 2);
    }

    private void statesOfNoChange() {
        s.says(TERMS, "also if nothing changes by it,");
        ResidualJudge x = new ResidualJudge();
        s.due("clears(8)", x.clears(8), 1);
        s.due("states", x.told(4), 1);
        s.due("begins(8)", x.begins(8), 0);
        s.due("states", x.told(4), 2);
        s.due("reads", Sentences.read(x, "^=_;"), 1);
        s.due("states", x.told(4), 3);
        s.due("reads", x.reads(), 1);
        s.due("states", x.told(4), 4);
        for (int left = 3; left >= 0; left--) {
            s.due("back", x.back(), left);
        }
    }

    private void statesHold() {
        s.says(TERMS, "to go back to (THE GRAMMAR, THE ROW),");
        ResidualJudge x = s.of("^=a,b;c=d,e;");
        x.begins(2);
        x.steps(3);
        Sentences.write(x, "^=h;c=h;");
        x.of(9, 9);
        x.reads();
        s.due("told anew", x.of(8, 1), 128);
        s.due("back", x.back(), 3);
        s.due("THE GRAMMAR: of(8, 2)", x.of(8, 2), 3);
        s.due("THE GRAMMAR: of(2, 1)", x.of(2, 1), 8);
        s.due("THE GRAMMAR: rows(2, 2)", x.rows(2, 2), 1);
        s.due("THE ROW: due", x.now(0), 16);
        s.due("THE ROW: ending", x.now(1), 0);
        s.due("THE ROW: length", x.now(2), 1);
        s.due("THE ROW: whose", x.now(3), 2);
        s.due("THE ROW goes on", x.steps(4), 0);
        s.due("THE TEXT stays", x.told(3), 8);
        s.due("how often refused stays", x.told(0), 1);
        x = s.of("^=a,b;");
        x.steps(0);
        x.steps(1);
        x.clears(8);
        s.due("back", x.back(), 3);
        s.due("two SORTS", x.now(2), 2);
        s.due("ending", x.now(1), 1);
        s.due("back", x.back(), 2);
        s.due("one SORT", x.now(2), 1);
        s.due("due", x.now(0), 2);
        s.due("back", x.back(), 1);
        s.due("none", x.now(2), 0);
        s.due("back", x.back(), 0);
        s.due("the first grammar", x.of(8, 2), 0);
        // A full ROW comes back whole.
        x = s.of("^=(a|b,c)*;");
        for (int i = 0; i < 20; i++) {
            x.steps(i < 19 ? 0 : 1);
        }
        s.due("begins", x.begins(8), 3);
        for (int i = 0; i < 3; i++) {
            x.steps(0);
        }
        for (int left = 3; left >= 0; left--) {
            s.due("back", x.back(), left);
        }
        s.due("its length", x.now(2), 20);
        s.due("due behind its last SORT", x.now(0), 4);
        s.due("it is full yet", x.steps(2), ResidualJudge.FULL);
    }

    private void fourStates() {
        s.says(TERMS, "4 at most, older ones lost.");
        for (int calls = 1; calls <= 14; calls++) {
            ResidualJudge x = s.of("^=h*;");
            for (int i = 0; i < calls; i++) {
                x.steps(7);
                s.due("states", x.told(4), Math.min(4, i + 2));
            }
            int states = Math.min(4, calls + 1);
            for (int left = states - 1; left >= 0; left--) {
                s.due("back", x.back(), left);
                s.due("its length", x.now(2), Math.max(0, calls - (states - left)));
            }
            s.due("no fifth", x.back(), ResidualJudge.NO);
            s.due("the oldest stays", x.now(2), Math.max(0, calls - 4));
        }
        ResidualJudge x = s.of("^=h*;");
        for (int round = 0; round < 9; round++) {
            x.begins(round % 8);
            x.begins(8);
            x.back();
        }
        s.due("states after turns", x.told(4), 3);
        s.due("back", x.back(), 2);
        s.due("whose", x.now(3), 7);
    }

    // ---- refusals

    private void refusedChangesNothing() {
        s.says(TERMS, "Refused (a question, too), changing nothing but how often,");
        ResidualJudge x = s.of("^=h*;a=b;");
        ResidualJudge y = s.of("^=h*;a=b;");
        for (int i = 0; i < 20; i++) {
            x.steps(7);
            y.steps(7);
        }
        Sentences.write(x, "h".repeat(150));
        Sentences.write(y, "h".repeat(150));
        int[] answers = {x.type(-1), x.type(128), x.clears(-1), x.clears(9), x.of(9, 0), x.of(0, 4), x.rows(9, 0),
            x.rows(0, 7), x.judge(6), x.begins(9), x.steps(8), x.now(4), x.told(5)};
        for (int i = 0; i < answers.length; i++) {
            s.due("refused call " + i, answers[i], ResidualJudge.BAD);
            s.due("y.told(-1)", y.told(-1), ResidualJudge.BAD);
        }
        s.due("no", x.steps(0), ResidualJudge.NO);
        s.due("no", y.steps(1), ResidualJudge.NO);
        s.due("full", x.steps(7), ResidualJudge.FULL);
        s.due("full", x.type('h'), ResidualJudge.FULL);
        s.due("full", y.type('h'), ResidualJudge.FULL);
        s.due("full", y.type('h'), ResidualJudge.FULL);
        s.due("bad, a question too", x.told(0), 13);
        s.due("no", x.told(1), 1);
        s.due("full", x.told(2), 2);
        s.due("the rest is as before: digest", x.digest(), y.digest());
        s.due("the text", x.judge(4), 150);
        s.due("the text", x.judge(1), -1);
        s.due("states", x.back(), 3);
        s.due("the row", x.now(2), 19);
    }

    private void orderOfRefusals() {
        s.says(TERMS, "the first of: BAD -2 a number is not as told; NO -3 as told; FULL -4 as told.");
        ResidualJudge x = s.of("^=h*;");
        for (int i = 0; i < 20; i++) {
            x.steps(7);
        }
        s.due("steps: BAD of BAD, FULL", x.steps(8), -2);
        s.due("steps: BAD of BAD, FULL", x.steps(-1), -2);
        s.due("steps: NO of NO, FULL", x.steps(0), -3);
        s.due("steps: FULL alone", x.steps(7), -4);
        s.due("counted: BAD", x.told(0), 2);
        s.due("counted: NO", x.told(1), 1);
        s.due("counted: FULL", x.told(2), 1);
        Sentences.write(x, "h".repeat(150));
        s.due("type: BAD of BAD, FULL", x.type(128), -2);
        s.due("type: BAD of BAD, FULL", x.type(-1), -2);
        s.due("type: FULL alone", x.type(127), -4);
        s.due("back: NO alone", new ResidualJudge().back(), -3);
        s.due("counted: BAD", x.told(0), 4);
        s.due("counted: NO", x.told(1), 1);
        s.due("counted: FULL", x.told(2), 2);
        ResidualJudge y = new ResidualJudge();
        y.type('*');
        s.due("judge: BAD ahead of a FAULT", y.judge(6), -2);
        s.due("counted: BAD", y.told(0), 1);
    }

    private void faultsDoNotCount() {
        s.says(TERMS, "By what THE TEXT tells, by a FAULT of it nothing counts.");
        ResidualJudge x = s.of("^=a;");
        Sentences.write(x, "b");
        s.due("a flaw", x.judge(0), 0);
        s.due("its mark", x.mark(), 0);
        Sentences.write(x, "a=b;^=(");
        s.due("a fault", x.reads(), -17);
        s.due("a fault", x.judge(0), -11);
        s.due("a fault", x.mark(), -11);
        for (int what = 0; what <= 2; what++) {
            s.due("told(" + what + ")", x.told(what), 0);
        }
        s.due("no order of it is done", x.of(0, 2), 0);
        s.due("no order of it is done", x.of(8, 2), 1);
        s.due("no state by it", x.told(4), 1);
    }

    // ---- ahead of the terms

    private void calls() {
        s.says("What it is", "An object is used for at most 512 calls after it has been made;");
        ResidualJudge x = new ResidualJudge();
        for (int call = 1; call <= 511; call++) {
            s.due("type, call " + call, x.type('h'), call <= 150 ? call : ResidualJudge.FULL);
        }
        s.due("call 512", x.told(2), 361);
        x = new ResidualJudge();
        for (int call = 1; call <= 511; call++) {
            s.due("begins, call " + call, x.begins(call % 9), 0);
        }
        s.due("call 512", x.now(3), 511 % 9);
        x = s.of("^=(a|b|c|d|e|f|g|h)*;");
        long digest = x.digest();
        for (int call = 25; call <= 511; call++) {
            s.due("digest, call " + call, x.digest(), digest);
        }
        s.due("call 512", x.rows(8, 6), 262144);
    }

    private void constants() {
        s.says("The public face", "public static final int NONE = -1, BAD = -2, NO = -3, FULL = -4;");
        s.due("NONE", ResidualJudge.NONE, -1);
        s.due("BAD", ResidualJudge.BAD, -2);
        s.due("NO", ResidualJudge.NO, -3);
        s.due("FULL", ResidualJudge.FULL, -4);
    }
}
