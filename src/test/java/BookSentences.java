/** What the document says of BOOKS, FLAWS, MARKS and THE ROW, a test for each sentence. */
final class BookSentences {
    private static final String TERMS = "Terms";
    private static final int ONE = 0x3F800000;
    private static final int A = 1, B = 2, C = 4, D = 8;

    private final Sentences s;

    private BookSentences(Sentences sentences) {
        s = sentences;
    }

    static void run(Sentences sentences) {
        BookSentences tests = new BookSentences(sentences);
        tests.parts();
        tests.part();
        tests.judgedByPatterns();
        tests.flawAtLetter();
        tests.flawAtEnd();
        tests.flawAtBareEnd();
        tests.flawAtBookEnd();
        tests.firstByPlace();
        tests.endAheadOfLetter();
        tests.innerEnd();
        tests.dueAtFlaw();
        tests.endingAtFlaw();
        tests.mark();
        tests.markWithoutLetters();
        tests.row();
        tests.rowToldAnew();
    }

    private void parts() {
        s.says(TERMS, "A BOOK, as a text: PARTS one behind the other (perhaps none);");
        s.isWell("^=_;", "");
        s.isWell("^=_;", "  ");
        s.isWell("^=a,b,c;", "abc");
        s.isWell("^=a,b,c;a=d?;", "a(d)b()c");
        s.isWell("^=h*;", "h".repeat(150));
        s.isWell("^=h*;h=h*;", "h(hh(h)h)hh(h)");
    }

    private void part() {
        s.says(TERMS, "a PART: a letter a to h (its SORT), then perhaps ( PARTS ) (what stands in it; none: nothing).");
        s.isWell("^=a;", "a");
        s.isWell("^=a;", "a()");
        s.isWell("^=a;", "a ( ) ");
        s.isWell("^=a;a=b,c;", "a(bc)");
        s.flawed("^=a;a=b;", "a", 1, B, 0);
        s.flawed("^=a;a=b;", "a()", 2, B, 0);
        s.flawed("^=a;a=b;", "a( )", 3, B, 0);
        s.bookFault("(", 0);
        s.bookFault("()", 0);
        s.bookFault(" (a)", 1);
        s.bookFault("a()()", 3);
        s.bookFault("a(b)(c)", 4);
        s.bookFault("a(()", 2);
        s.bookFault("a((b))", 2);
        s.bookFault(")", 0);
        s.bookFault("a)", 1);
        s.bookFault("a(b))", 4);
        s.bookFault("a,b", 1);
        s.bookFault("a;", 1);
        s.bookFault("_", 0);
        s.bookFault("^", 0);
    }

    private void judgedByPatterns() {
        s.says(TERMS, "It is JUDGED from its beginning: what stands in THE BOOK, in each PART, has to be a ROW that the "
                + "PATTERN (of THE BOOK, of that SORT) allows.");
        String orders = "^=a,b;a=b,b;b=c?;c=_;";
        s.isWell(orders, "a(bb)b");
        s.isWell(orders, "a(b(c)b(c()))b(c)");
        s.flawed(orders, "b", 0, A, 0);
        s.flawed(orders, "a(bb)bb", 6, 0, 1);
        s.flawed(orders, "a(b)b", 3, B, 0);
        s.flawed(orders, "a(bbb)b", 4, 0, 1);
        s.flawed(orders, "a(bb(cc))b", 6, 0, 1);
        s.flawed(orders, "a(bb(c(c)))b", 7, 0, 1);
        s.flawed(orders, "a(bb)b(b)", 7, C, 1);
        s.flawed("^=a;a=_;", "a(h)", 2, 0, 1);
    }

    private void flawAtLetter() {
        s.says(TERMS, "The first FLAW: a letter, such that no ROW allowed there begins with SORTS as they stand up to it "
                + "(it is told by its place);");
        s.flawed("^=a,b,c|a,d;", "abd", 2, C, 0);
        s.flawed("^=a,b,c|a,d;", "adc", 2, 0, 1);
        s.flawed("^=a,b,c|a,d;", "h", 0, A, 0);
        s.flawed("^=a,b,c|a,d;", "  a  b  a ", 8, C, 0);
        s.flawed("^=a,b|a,c;", "acb", 2, 0, 1);
        s.flawed("^=(a,b)&(a,c);", "abb", 2, A, 0);
        s.flawed("^=h*;", "h".repeat(149) + "a", 149, 128, 1);
    }

    private void flawAtEnd() {
        s.says(TERMS, "or, where all stands well, an end at which the ROW is not allowed: the place of the )");
        s.flawed("^=a;a=b,c;", "a(b)", 3, C, 0);
        s.flawed("^=a;a=b,c;", "a(b  )", 5, C, 0);
        s.flawed("^=a;a=b,c;", "a()", 2, B, 0);
        s.flawed("^=a;a=a|b,c;", "a(a(a(b)))", 7, C, 0);
        s.isWell("^=a;a=b,c;", "a(bc)");
    }

    private void flawAtBareEnd() {
        s.says(TERMS, "(of a PART without ( ): the place behind its letter and blanks;");
        s.flawed("^=a,b;a=c;", "ab", 1, C, 0);
        s.flawed("^=a,b;a=c;", "a b", 2, C, 0);
        s.flawed("^=a,b;a=c;", "  a    b", 7, C, 0);
        s.flawed("^=a,b;a=c;", "a   ", 4, C, 0);
        s.flawed("^=b;b=a?;a=c;", "b( a  )", 6, C, 0);
        s.flawed("^=b;b=a,b;a=c;", "b(ab)", 3, C, 0);
        s.flawed("^=a;a=c;", "a" + " ".repeat(149), 150, C, 0);
        s.flawed("^=h*,a;h=_;a=c;", "h".repeat(149) + "a", 150, C, 0);
        // A bracket that comes yet is its own, behind blanks too.
        s.isWell("^=a;a=c;", "a   (c)");
    }

    private void flawAtBookEnd() {
        s.says(TERMS, "of THE BOOK: the text's length).");
        s.flawed("^=a;", "", 0, A, 0);
        s.flawed("^=a;", " ", 1, A, 0);
        s.flawed("^=a;", " ".repeat(150), 150, A, 0);
        s.flawed("^=a,b;", "a", 1, B, 0);
        s.flawed("^=a,b;", "a()  ", 5, B, 0);
        s.flawed("^=(a,b)*;", "ab".repeat(74) + "a ", 150, B, 0);
        s.flawed("^=(a,b,c)*,a;", "abc".repeat(50), 150, A, 0);
    }

    private void firstByPlace() {
        s.says(TERMS, "What comes first, by place, is told");
        s.flawed("^=a,b;a=c,d;b=c;", "a(c)h", 3, D, 0);
        s.flawed("^=a,b;a=c,d;b=c;", "a(h)h", 2, C, 0);
        s.flawed("^=a,b;a=c,d;b=c;", "h(c)h", 0, A, 0);
        s.flawed("^=a,b;a=c,d;b=c;", "a(cd)b(h)h", 7, C, 0);
        s.flawed("^=a,b,c;a=c;b=d;", "ab", 1, C, 0);
        // A letter that is a FLAW comes ahead of all that stands in it.
        s.flawed("^=a;b=c;", "b(h)", 0, A, 0);
    }

    private void endAheadOfLetter() {
        s.says(TERMS, "(an end ahead of a letter there,");
        s.flawed("^=a,b;a=c;", "ah", 1, C, 0);
        s.flawed("^=a,b;a=c|d,d;", "a  h", 3, C | D, 0);
        s.flawed("^=h;h=a,b;a=c;", "h(aa)", 3, C, 0);
        s.flawed("^=a,b;a=c?;", "ah", 1, B, 0);
    }

    private void innerEnd() {
        s.says(TERMS, "of two ends that of the inner PART).");
        s.flawed("^=a,b;a=c;", "a", 1, C, 0);
        s.flawed("^=a,b;a=c;", "a  ", 3, C, 0);
        s.flawed("^=a;a=b,b;b=c|d;", "a(b)", 3, C | D, 0);
        s.flawed("^=a;a=b,b;b=c|d;", "a(b )", 4, C | D, 0);
        s.flawed("^=a;a=b,b;b=_;", "a(b)", 3, B, 0);
        s.flawed("^=a,b;a=_;", "a", 1, B, 0);
    }

    private void dueAtFlaw() {
        s.says(TERMS, "DUE at a FLAW: the SORTS of which one could stand there, such that some ROW allowed begins so;");
        s.flawed("^=a|b,c|d;", "h", 0, A | B | D, 0);
        s.flawed("^=(a&b),c;", "ac", 1, B, 0);
        s.flawed("^=a?,b?,c?,d;", "bb", 1, C | D, 0);
        s.flawed("^=(a,b)*;", "abb", 2, A, 1);
        s.flawed("^=a;", "aa", 1, 0, 1);
        s.flawed("^=a|b|c|d|e|f|g|h;", "", 0, 255, 0);
        s.flawed("^=a;a=h;", "a", 1, 128, 0);
    }

    private void endingAtFlaw() {
        s.says(TERMS, "ENDING: whether the ROW ahead of it is allowed as it is.");
        s.flawed("^=a,b?;", "ah", 1, B, 1);
        s.flawed("^=a,b;", "ah", 1, B, 0);
        s.flawed("^=a*;", "b", 0, A, 1);
        s.flawed("^=a+;", "b", 0, A, 0);
        s.flawed("^=a;a=b?;", "a(c)", 2, B, 1);
        // At an end that is a FLAW the ROW is not allowed.
        s.flawed("^=a,b;", "a", 1, B, 0);
        s.isWell("^=a?;", "");
    }

    private void mark() {
        s.says(TERMS, "MARK of a BOOK, a float: letters ahead of the FLAW (all, if there is none), as a float, by all "
                + "letters, as a float;");
        s.marked("^=a*;", "aaa", ONE);
        s.marked("^=a*;", "baa", 0);
        s.marked("^=a*;", "abaa", 0x3E800000);
        s.marked("^=a*;", "ab", 0x3F000000);
        s.marked("^=a*;", "aba", 0x3EAAAAAB);
        s.marked("^=a*;", "aab", 0x3F2AAAAB);
        s.marked("^=a*;", "aaaaaaaaab", 0x3F666666);
        s.marked("^=a*;", "b" + "a".repeat(149), 0);
        s.marked("^=a*;", "ab" + "a".repeat(148), 0x3BDA740E);
        s.marked("^=a*;", "a".repeat(149) + "b", 0x3F7E4B18);
        // Letters in PARTS count, and those at an end's place stand behind it.
        s.marked("^=a*;a=b*;", "a(bb)a(c)", 0x3F4CCCCD);
        s.marked("^=a,b;a=c;", "ab", 0x3F000000);
        s.marked("^=a,b;a=c;", "a", ONE);
        s.marked("^=a,b;", "a", ONE);
        for (int all = 1; all <= 150; all += 7) {
            for (int ahead = 0; ahead < all; ahead += 5) {
                s.marked("^=a*;", "a".repeat(ahead) + "b" + "a".repeat(all - ahead - 1),
                        Float.floatToIntBits((float) ahead / (float) all));
            }
        }
    }

    private void markWithoutLetters() {
        s.says(TERMS, "without letters 1, if there is no FLAW, else 0.");
        s.marked("^=a*;", "", ONE);
        s.marked("^=a*;", "   ", ONE);
        s.marked("^=a;", "", 0);
        s.marked("^=a;", "   ", 0);
    }

    private void row() {
        s.says(TERMS, "THE ROW: SORTS tried one by one in a PATTERN of THE GRAMMAR: STEPS.");
        ResidualJudge x = s.of("^=a,(b|c)*,d;c=d,d;");
        s.due("steps(0)", x.steps(0), B | C | D);
        s.due("steps(2)", x.steps(2), B | C | D);
        s.due("steps(3)", x.steps(3), 0);
        s.due("now(1)", x.now(1), 1);
        s.due("now(2)", x.now(2), 3);
        s.due("begins(2)", x.begins(2), D);
        s.due("steps(3) in another pattern", x.steps(3), D);
        s.due("now(1)", x.now(1), 0);
    }

    private void rowToldAnew() {
        s.says(TERMS, "THE GRAMMAR told anew makes it empty (of THE BOOK's PATTERN).");
        ResidualJudge x = s.of("^=a,b;c=d,d;");
        x.begins(2);
        x.steps(3);
        s.due("reads of the same", x.reads(), 2);
        s.due("its length", x.now(2), 0);
        s.due("whose", x.now(3), 8);
        s.due("due", x.now(0), A);
        x.begins(2);
        x.steps(3);
        s.due("reads of another sort", Sentences.read(x, "h=a;"), 1);
        s.due("its length", x.now(2), 0);
        s.due("whose", x.now(3), 8);
        ResidualJudge full = s.of("^=h*;");
        for (int i = 0; i < 20; i++) {
            full.steps(7);
        }
        s.due("reads, the row being full", full.reads(), 1);
        s.due("its length", full.now(2), 0);
        s.due("a step of it", full.steps(7), 128);
        x.begins(2);
        x.steps(3);
        s.due("reads with a fault tells nothing", Sentences.read(x, "h=a"), -13);
        s.due("its length", x.now(2), 1);
        s.due("whose", x.now(3), 2);
    }
}
