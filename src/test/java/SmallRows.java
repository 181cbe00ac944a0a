import java.util.BitSet;

/**
 * Sets of ROWS of a and b with 7 SORTS at most, written out. A ROW is a number: its SORTS as binary digits behind a
 * leading 1, so that the empty ROW is 1. Each operator is what the document's words say of it, ROW by ROW.
 */
final class SmallRows {
    static final int LONGEST = 7;
    private static final int EMPTY_ROW = 1;

    private SmallRows() {
    }

    static int length(int row) {
        return 31 - Integer.numberOfLeadingZeros(row);
    }

    static int with(int row, int sort) {
        return row << 1 | sort;
    }

    static BitSet only(int row) {
        BitSet rows = new BitSet();
        rows.set(row);
        return rows;
    }

    static BitSet empty() {
        return only(EMPTY_ROW);
    }

    static BitSet either(BitSet p, BitSet q) {
        BitSet rows = (BitSet) p.clone();
        rows.or(q);
        return rows;
    }

    static BitSet behind(BitSet p, BitSet q) {
        BitSet rows = new BitSet();
        for (int left = p.nextSetBit(0); left >= 0; left = p.nextSetBit(left + 1)) {
            for (int right = q.nextSetBit(0); right >= 0; right = q.nextSetBit(right + 1)) {
                if (length(left) + length(right) <= LONGEST) {
                    rows.set(left << length(right) | right - (1 << length(right)));
                }
            }
        }
        return rows;
    }

    static BitSet mixed(BitSet p, BitSet q) {
        BitSet rows = new BitSet();
        for (int left = p.nextSetBit(0); left >= 0; left = p.nextSetBit(left + 1)) {
            for (int right = q.nextSetBit(0); right >= 0; right = q.nextSetBit(right + 1)) {
                if (length(left) + length(right) <= LONGEST) {
                    mix(EMPTY_ROW, left, right, rows);
                }
            }
        }
        return rows;
    }

    private static void mix(int done, int left, int right, BitSet rows) {
        if (left == EMPTY_ROW && right == EMPTY_ROW) {
            rows.set(done);
        }
        if (left != EMPTY_ROW) {
            mix(with(done, first(left)), rest(left), right, rows);
        }
        if (right != EMPTY_ROW) {
            mix(with(done, first(right)), left, rest(right), rows);
        }
    }

    private static int first(int row) {
        return row >> length(row) - 1 & 1;
    }

    private static int rest(int row) {
        int bits = length(row) - 1;
        return 1 << bits | row & (1 << bits) - 1;
    }

    static BitSet oneOrMore(BitSet p) {
        BitSet rows = (BitSet) p.clone();
        // Eight ROWS one behind the other have eight SORTS, or some of them are empty and can be left out.
        for (int times = 0; times < LONGEST; times++) {
            rows.or(behind(rows, p));
        }
        return rows;
    }

    static BitSet ofOperator(char operator, BitSet p, BitSet q) {
        switch (operator) {
            case ',':
                return behind(p, q);
            case '&':
                return mixed(p, q);
            case '|':
                return either(p, q);
            case '?':
                return either(p, empty());
            case '*':
                return either(oneOrMore(p), empty());
            default:
                return oneOrMore(p);
        }
    }

    /** All beginnings of ROWS, the ROWS themselves and the empty one, too. */
    static BitSet beginnings(BitSet rows) {
        BitSet all = new BitSet();
        for (int row = rows.nextSetBit(0); row >= 0; row = rows.nextSetBit(row + 1)) {
            for (int begun = row; begun >= EMPTY_ROW; begun >>= 1) {
                all.set(begun);
            }
        }
        return all;
    }

    /** Of a row, or of what is told to begin ROWS: the SORTS behind it with which it begins ROWS still, as bits. */
    static int due(BitSet beginnings, int row) {
        return (beginnings.get(with(row, 0)) ? 1 : 0) | (beginnings.get(with(row, 1)) ? 2 : 0);
    }
}
