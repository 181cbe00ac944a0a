import java.util.ArrayList;
import java.util.BitSet;
import java.util.List;

/** Every PATTERN of up to 7 NODES of _, a and b: what of, rows and THE ROW answer, compared with its ROWS written out. */
public final class SmallPatterns {
    private static final int NODES = 7;
    private static final int STEPS = 4;
    private static final String BETWEEN = "|&,";
    private static final String BEHIND_ONE = "?*+";

    /** A PATTERN's text with the brackets that it needs, how strongly it binds (3: a TIMES), and its ROWS. */
    private record Small(String text, int binds, BitSet rows) {
        String in(int least) {
            return binds >= least ? text : "(" + text + ")";
        }
    }

    private static long asked;
    private static int wrong;

    public static void main(String[] args) {
        List<List<Small>> all = new ArrayList<>();
        all.add(List.of());
        all.add(List.of(new Small("_", 3, SmallRows.empty()), new Small("a", 3, SmallRows.only(2)),
                new Small("b", 3, SmallRows.only(3))));
        for (int nodes = 2; nodes <= NODES; nodes++) {
            all.add(ofNodes(nodes, all));
        }
        int patterns = 0;
        for (List<Small> some : all) {
            for (Small one : some) {
                check(one, patterns % 9);
                patterns++;
            }
        }
        System.out.println("SmallPatterns: " + patterns + " patterns with " + asked + " answers, " + wrong + " not as due");
        if (wrong != 0) {
            System.exit(1);
        }
    }

    private static List<Small> ofNodes(int nodes, List<List<Small>> all) {
        List<Small> made = new ArrayList<>();
        for (Small inner : all.get(nodes - 1)) {
            for (char operator : BEHIND_ONE.toCharArray()) {
                made.add(new Small(inner.in(3) + operator, 3, SmallRows.ofOperator(operator, inner.rows, inner.rows)));
            }
        }
        for (int left = 1; left + 1 < nodes; left++) {
            for (Small p : all.get(left)) {
                for (Small q : all.get(nodes - 1 - left)) {
                    for (int binds = 0; binds < 3; binds++) {
                        char operator = BETWEEN.charAt(binds);
                        // Of three in a row without brackets the first two are taken together: all three operators allow that.
                        made.add(new Small(p.in(binds) + operator + q.in(binds), binds,
                                SmallRows.ofOperator(operator, p.rows, q.rows)));
                    }
                }
            }
        }
        return made;
    }

    private static void check(Small one, int x) {
        ResidualJudge judge = new ResidualJudge();
        for (char c : ("abcdefgh^".charAt(x) + "=" + one.text + ";").toCharArray()) {
            judge.type(c);
        }
        due(one, "reads()", judge.reads(), 1);
        BitSet beginnings = SmallRows.beginnings(one.rows);
        due(one, "of(x, 0)", judge.of(x, 0), one.rows.get(1) ? 1 : 0);
        due(one, "of(x, 1)", judge.of(x, 1), SmallRows.due(beginnings, 1));
        due(one, "of(x, 2)", judge.of(x, 2), sortsIn(one.rows));
        due(one, "of(x, 3)", judge.of(x, 3), SmallRows.length(one.rows.nextSetBit(0)));
        for (int n = 0; n <= 6; n++) {
            due(one, "rows(x, " + n + ")", judge.rows(x, n), one.rows.get(1 << n, 2 << n).cardinality());
        }
        due(one, "begins(x)", judge.begins(x), SmallRows.due(beginnings, 1));
        stepOn(one, beginnings, judge, 1);
    }

    private static void stepOn(Small one, BitSet beginnings, ResidualJudge judge, int row) {
        due(one, "now(1) of row " + row, judge.now(1), one.rows.get(row) ? 1 : 0);
        for (int sort = 0; sort < 2 && SmallRows.length(row) < STEPS; sort++) {
            int next = SmallRows.with(row, sort);
            if (beginnings.get(next)) {
                due(one, "steps to row " + next, judge.steps(sort), SmallRows.due(beginnings, next));
                stepOn(one, beginnings, judge, next);
                judge.back();
            } else {
                due(one, "steps to row " + next, judge.steps(sort), ResidualJudge.NO);
            }
        }
        due(one, "now(0) of row " + row, judge.now(0), SmallRows.due(beginnings, row));
    }

    private static int sortsIn(BitSet rows) {
        int bits = 0;
        for (int row = rows.nextSetBit(0); row >= 0; row = rows.nextSetBit(row + 1)) {
            for (int left = row; left > 1; left >>= 1) {
                bits |= 1 << (left & 1);
            }
        }
        return bits;
    }

    private static void due(Small one, String call, long got, long want) {
        asked++;
        if (got != want) {
            wrong++;
            System.out.println(one.text + ": " + call + " answered " + got + ", due is " + want);
        }
    }
}
