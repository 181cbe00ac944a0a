import java.util.ArrayList;
import java.util.BitSet;
import java.util.List;

/**
 * Every short BOOK of a and b under every grammar of a few PATTERNS for THE BOOK, a and b. Each row of PARTS is looked
 * at by itself, by ROWS written out; all FLAWS are gathered, and the first of them by the document's order is due.
 */
public final class SmallBooks {
    private static final String BYTES = "ab() ";
    private static final int LONGEST_BOOK = 5;
    private static final int LONGER_BOOK = 8;
    // ROWS of 7 SORTS are written out: of so many letters, with what these PATTERNS want behind them, there are no more.
    private static final int MOST_LETTERS = 5;
    private static final int BOOK = 8;

    private record Small(String text, BitSet rows, BitSet beginnings) {
    }

    /** What stands in one PART or in THE BOOK: its letters with their places, and where it ends. */
    private static final class Stretch {
        final int owner;
        final int depth;
        final List<Integer> sorts = new ArrayList<>();
        final List<Integer> places = new ArrayList<>();
        int end;

        Stretch(int owner, int depth) {
            this.owner = owner;
            this.depth = depth;
        }
    }

    private record Book(String text, List<Stretch> stretches) {
        int letters() {
            return stretches.size() - 1;
        }

        int deepest() {
            int deepest = 0;
            for (Stretch one : stretches) {
                deepest = Math.max(deepest, one.depth);
            }
            return deepest;
        }

        int lettersAheadOf(int place) {
            int ahead = 0;
            for (Stretch one : stretches) {
                for (int at : one.places) {
                    ahead += at < place ? 1 : 0;
                }
            }
            return ahead;
        }
    }

    private record Flaw(int place, boolean letter, int depth, int due, boolean ending) implements Comparable<Flaw> {
        @Override
        public int compareTo(Flaw other) {
            if (place != other.place) {
                return Integer.compare(place, other.place);
            }
            return letter != other.letter ? Boolean.compare(letter, other.letter) : Integer.compare(other.depth, depth);
        }
    }

    private static ResidualJudge judge;
    private static int calls;
    private static long judged;
    private static int wrong;

    public static void main(String[] args) {
        List<Small> patterns = patterns();
        List<Book> books = new ArrayList<>();
        gather("", LONGEST_BOOK, books);
        for (Small top : patterns) {
            for (Small ofA : patterns) {
                for (Small ofB : patterns) {
                    judgeAll(List.of(ofA, ofB, top), books);
                }
            }
        }
        List<Book> longer = new ArrayList<>();
        gather("", LONGER_BOOK, longer);
        for (int i = 0; i < patterns.size(); i++) {
            judgeAll(List.of(next(patterns, i + 5), next(patterns, i + 9), next(patterns, i)), longer);
        }
        System.out.println("SmallBooks: " + judged + " books judged, " + wrong + " answers not as due");
        if (wrong != 0) {
            System.exit(1);
        }
    }

    private static Small next(List<Small> patterns, int i) {
        return patterns.get(i % patterns.size());
    }

    private static List<Small> patterns() {
        BitSet a = SmallRows.only(2);
        BitSet b = SmallRows.only(3);
        BitSet ab = SmallRows.behind(a, b);
        return List.of(small("_", SmallRows.empty()), small("a", a), small("a?", SmallRows.ofOperator('?', a, a)),
                small("b*", SmallRows.ofOperator('*', b, b)), small("a+", SmallRows.ofOperator('+', a, a)),
                small("a,b", ab), small("a|b", SmallRows.either(a, b)), small("a&b", SmallRows.mixed(a, b)),
                small("(a,b)*", SmallRows.ofOperator('*', ab, ab)), small("(a,b)?", SmallRows.ofOperator('?', ab, ab)),
                small("b,(a|b)*", SmallRows.behind(b, SmallRows.ofOperator('*', SmallRows.either(a, b), a))),
                small("a*&b", SmallRows.mixed(SmallRows.ofOperator('*', a, a), b)));
    }

    private static Small small(String text, BitSet rows) {
        return new Small(text, rows, SmallRows.beginnings(rows));
    }

    // ---- books

    private static void gather(String text, int left, List<Book> books) {
        Book book = bookOf(text);
        if (book != null && book.letters() <= MOST_LETTERS) {
            books.add(book);
        }
        for (char c : BYTES.toCharArray()) {
            if (left > 0) {
                gather(text + c, left - 1, books);
            }
        }
    }

    /** Null, if it is none. THE BOOK's stretch comes first, the others as their letters stand. */
    private static Book bookOf(String text) {
        List<Stretch> stretches = new ArrayList<>();
        List<Stretch> open = new ArrayList<>();
        stretches.add(new Stretch(BOOK, 0));
        open.add(stretches.get(0));
        for (int i = 0; i < text.length(); i++) {
            char c = text.charAt(i);
            Stretch inner = open.get(open.size() - 1);
            if (c == 'a' || c == 'b') {
                inner.sorts.add(c - 'a');
                inner.places.add(i);
                Stretch part = new Stretch(c - 'a', open.size());
                part.end = behindBlanks(text, i + 1);
                stretches.add(part);
            } else if (c == '(') {
                boolean behindLetter = text.substring(0, i).matches(".*[ab] *");
                if (!behindLetter) {
                    return null;
                }
                open.add(stretches.get(stretches.size() - 1));
            } else if (c == ')') {
                inner.end = i;
                open.remove(open.size() - 1);
                if (open.isEmpty()) {
                    return null;
                }
            }
        }
        stretches.get(0).end = text.length();
        return open.size() == 1 ? new Book(text, stretches) : null;
    }

    private static int behindBlanks(String text, int from) {
        int place = from;
        while (place < text.length() && text.charAt(place) == ' ') {
            place++;
        }
        return place;
    }

    // ---- judging

    private static Flaw firstFlaw(List<Small> grammar, Book book) {
        Flaw first = null;
        for (Stretch one : book.stretches) {
            Flaw flaw = flawIn(grammar.get(Math.min(one.owner, 2)), one);
            first = flaw != null && (first == null || flaw.compareTo(first) < 0) ? flaw : first;
        }
        return first;
    }

    private static Flaw flawIn(Small pattern, Stretch one) {
        int row = 1;
        for (int i = 0; i < one.sorts.size(); i++) {
            int next = SmallRows.with(row, one.sorts.get(i));
            if (!pattern.beginnings.get(next)) {
                return new Flaw(one.places.get(i), true, one.depth, SmallRows.due(pattern.beginnings, row),
                        pattern.rows.get(row));
            }
            row = next;
        }
        return pattern.rows.get(row) ? null
                : new Flaw(one.end, false, one.depth, SmallRows.due(pattern.beginnings, row), false);
    }

    private static void judgeAll(List<Small> grammar, List<Book> books) {
        judge = null;
        for (Book book : books) {
            if (judge == null || calls + book.text.length() + 8 > 512) {
                begin(grammar);
            }
            judge.clear();
            type(book.text);
            calls += 8;
            check(grammar, book);
        }
    }

    private static void begin(List<Small> grammar) {
        judge = new ResidualJudge();
        calls = 1;
        type("a=" + grammar.get(0).text + ";b=" + grammar.get(1).text + ";^=" + grammar.get(2).text + ";");
        if (judge.reads() != 3) {
            wrong++;
        }
    }

    private static void type(String text) {
        calls += text.length();
        for (char c : text.toCharArray()) {
            judge.type(c);
        }
    }

    private static void check(List<Small> grammar, Book book) {
        judged++;
        Flaw flaw = firstFlaw(grammar, book);
        boolean well = flaw == null;
        due(grammar, book, "judge(0)", judge.judge(0), well ? 1 : 0);
        due(grammar, book, "judge(1)", judge.judge(1), well ? ResidualJudge.NONE : flaw.place);
        due(grammar, book, "judge(2)", judge.judge(2), well ? 0 : flaw.due);
        due(grammar, book, "judge(3)", judge.judge(3), well || flaw.ending ? 1 : 0);
        due(grammar, book, "judge(4)", judge.judge(4), book.letters());
        due(grammar, book, "judge(5)", judge.judge(5), book.deepest());
        float share = book.letters() == 0 ? (well ? 1f : 0f)
                : (float) (well ? book.letters() : book.lettersAheadOf(flaw.place)) / (float) book.letters();
        due(grammar, book, "mark()", judge.mark(), Float.floatToIntBits(share));
    }

    private static void due(List<Small> grammar, Book book, String call, int got, int want) {
        if (got != want) {
            wrong++;
            System.out.println("a=" + grammar.get(0).text + " b=" + grammar.get(1).text + " ^=" + grammar.get(2).text + " \""
                    + book.text + "\": " + call + " answered " + got + ", due is " + want);
        }
    }
}
