import java.util.ArrayDeque;
import java.util.ArrayList;
import java.util.Deque;
import java.util.HashMap;
import java.util.List;
import java.util.Map;
import java.util.Set;
import java.util.TreeMap;
import java.util.TreeSet;

/**
 * The document in its plainest form, for the tests to compare with. It shares nothing with the class: PATTERNS are
 * read by descent, gone through by derivatives of terms, counted by writing all their ROWS out, and of a BOOK all
 * ends and letters are looked at, then the first FLAW is picked.
 */
final class Model {
    static final int NONE = -1, BAD = -2, NO = -3, FULL = -4;
    static final int BOOK = 8;

    // ---- terms

    /** A term with a text that is the same for equal terms. */
    record Term(char kind, int sort, List<Term> parts, String name) {
    }

    static final Term NOTHING = new Term('0', 0, List.of(), "0");
    static final Term EMPTY = new Term('_', 0, List.of(), "_");

    static Term sort(int s) {
        return new Term('s', s, List.of(), String.valueOf((char) ('a' + s)));
    }

    static Term behind(Term p, Term q) {
        if (p == NOTHING || q == NOTHING) {
            return NOTHING;
        }
        if (p == EMPTY) {
            return q;
        }
        if (q == EMPTY) {
            return p;
        }
        return new Term(',', 0, List.of(p, q), "(" + p.name + "," + q.name + ")");
    }

    static Term mixed(Term p, Term q) {
        if (p == NOTHING || q == NOTHING) {
            return NOTHING;
        }
        if (p == EMPTY) {
            return q;
        }
        if (q == EMPTY) {
            return p;
        }
        return new Term('&', 0, List.of(p, q), "(" + p.name + "&" + q.name + ")");
    }

    static Term either(Term p, Term q) {
        Map<String, Term> all = new TreeMap<>();
        gather(p, all);
        gather(q, all);
        if (all.isEmpty()) {
            return NOTHING;
        }
        if (all.size() == 1) {
            return all.values().iterator().next();
        }
        return new Term('|', 0, List.copyOf(all.values()), "(" + String.join("|", all.keySet()) + ")");
    }

    private static void gather(Term p, Map<String, Term> all) {
        if (p.kind == '|') {
            for (Term part : p.parts) {
                gather(part, all);
            }
        } else if (p != NOTHING) {
            all.put(p.name, p);
        }
    }

    static Term times(Term p) {
        return new Term('*', 0, List.of(p), "(" + p.name + ")*");
    }

    static boolean allowsEmpty(Term p) {
        switch (p.kind) {
            case '_':
            case '*':
                return true;
            case ',':
            case '&':
                return allowsEmpty(p.parts.get(0)) && allowsEmpty(p.parts.get(1));
            case '|':
                for (Term part : p.parts) {
                    if (allowsEmpty(part)) {
                        return true;
                    }
                }
                return false;
            default:
                return false;
        }
    }

    private final Map<String, Term> derived = new HashMap<>();

    Term derive(Term p, int s) {
        String key = s + p.name;
        Term known = derived.get(key);
        if (known == null) {
            known = deriveNew(p, s);
            derived.put(key, known);
        }
        return known;
    }

    private Term deriveNew(Term p, int s) {
        switch (p.kind) {
            case 's':
                return p.sort == s ? EMPTY : NOTHING;
            case ',': {
                Term first = behind(derive(p.parts.get(0), s), p.parts.get(1));
                return allowsEmpty(p.parts.get(0)) ? either(first, derive(p.parts.get(1), s)) : first;
            }
            case '&':
                return either(mixed(derive(p.parts.get(0), s), p.parts.get(1)),
                        mixed(p.parts.get(0), derive(p.parts.get(1), s)));
            case '|': {
                Term all = NOTHING;
                for (Term part : p.parts) {
                    all = either(all, derive(part, s));
                }
                return all;
            }
            case '*':
                return behind(derive(p.parts.get(0), s), p);
            default:
                return NOTHING;
        }
    }

    int due(Term p) {
        int bits = 0;
        for (int s = 0; s < 8; s++) {
            if (derive(p, s) != NOTHING) {
                bits |= 1 << s;
            }
        }
        return bits;
    }

    // ---- ROWS written out, straight from the document's words

    private final Map<String, Set<String>> written = new HashMap<>();

    Set<String> rowsUpTo(Term p, int n) {
        String key = n + p.name;
        Set<String> known = written.get(key);
        if (known != null) {
            return known;
        }
        Set<String> all = new TreeSet<>();
        switch (p.kind) {
            case '_':
                all.add("");
                break;
            case 's':
                if (n >= 1) {
                    all.add(p.name);
                }
                break;
            case '|':
                for (Term part : p.parts) {
                    all.addAll(rowsUpTo(part, n));
                }
                break;
            case ',':
                for (String left : rowsUpTo(p.parts.get(0), n)) {
                    for (String right : rowsUpTo(p.parts.get(1), n - left.length())) {
                        all.add(left + right);
                    }
                }
                break;
            case '&':
                for (String left : rowsUpTo(p.parts.get(0), n)) {
                    for (String right : rowsUpTo(p.parts.get(1), n - left.length())) {
                        mix("", left, right, all);
                    }
                }
                break;
            case '*':
                all.add("");
                for (String first : rowsUpTo(p.parts.get(0), n)) {
                    if (!first.isEmpty()) {
                        for (String rest : rowsUpTo(p, n - first.length())) {
                            all.add(first + rest);
                        }
                    }
                }
                break;
            default:
                break;
        }
        written.put(key, all);
        return all;
    }

    private static void mix(String done, String left, String right, Set<String> all) {
        if (left.isEmpty() || right.isEmpty()) {
            all.add(done + left + right);
            return;
        }
        mix(done + left.charAt(0), left.substring(1), right, all);
        mix(done + right.charAt(0), left, right.substring(1), all);
    }

    // ---- the object

    record State(Term[] grammar, List<Integer> row, int owner) {
    }

    Term[] grammar = {EMPTY, EMPTY, EMPTY, EMPTY, EMPTY, EMPTY, EMPTY, EMPTY, EMPTY};
    List<Integer> row = new ArrayList<>();
    int owner = BOOK;
    String text = "";
    final Deque<State> states = new ArrayDeque<>();
    final int[] refusals = new int[3];

    private int refuse(int answer) {
        refusals[-2 - answer]++;
        return answer;
    }

    private void leaveState() {
        states.push(new State(grammar.clone(), new ArrayList<>(row), owner));
        if (states.size() > 4) {
            states.removeLast();
        }
    }

    int type(int c) {
        if (c < 0 || c > 127) {
            return refuse(BAD);
        }
        if (text.length() == 150) {
            return refuse(FULL);
        }
        text += (char) c;
        return text.length();
    }

    int clear() {
        int had = text.length();
        text = "";
        return had;
    }

    /** Reading by descent; a FAULT leaves it by an exception. */
    private final class Descent {
        int at = 0;
        int nodes;
        int open;

        int look() {
            while (at < text.length() && text.charAt(at) == ' ') {
                at++;
            }
            return at < text.length() ? text.charAt(at) : -1;
        }

        RuntimeException fault() {
            look();
            return new IllegalStateException();
        }

        void node() {
            if (nodes == 16) {
                throw fault();
            }
            nodes++;
            at++;
        }

        Term ways() {
            Term p = mixes();
            while (look() == '|') {
                node();
                p = either(p, mixes());
            }
            return p;
        }

        Term mixes() {
            Term p = rows();
            while (look() == '&') {
                node();
                p = mixed(p, rows());
            }
            return p;
        }

        Term rows() {
            Term p = timesOf();
            while (look() == ',') {
                node();
                p = behind(p, timesOf());
            }
            return p;
        }

        Term timesOf() {
            Term p = unit();
            for (int c = look(); c == '?' || c == '*' || c == '+'; c = look()) {
                node();
                p = c == '?' ? either(EMPTY, p) : c == '*' ? times(p) : behind(p, times(p));
            }
            return p;
        }

        Term unit() {
            int c = look();
            if (c == '_') {
                node();
                return EMPTY;
            }
            if (c >= 'a' && c <= 'h') {
                node();
                return sort(c - 'a');
            }
            if (c != '(' || open == 8) {
                throw fault();
            }
            open++;
            at++;
            Term p = ways();
            if (look() != ')') {
                throw fault();
            }
            open--;
            at++;
            return p;
        }

        int orders(Term[] into) {
            int count = 0;
            do {
                int c = look();
                if (c != '^' && (c < 'a' || c > 'h')) {
                    throw fault();
                }
                at++;
                if (look() != '=') {
                    throw fault();
                }
                at++;
                nodes = 0;
                Term p = ways();
                if (look() != ';') {
                    throw fault();
                }
                at++;
                into[c == '^' ? BOOK : c - 'a'] = p;
                count++;
            } while (look() != -1);
            return count;
        }
    }

    int reads() {
        Descent descent = new Descent();
        Term[] next = grammar.clone();
        int count;
        try {
            count = descent.orders(next);
        } catch (IllegalStateException e) {
            return -10 - descent.at;
        }
        leaveState();
        grammar = next;
        row = new ArrayList<>();
        owner = BOOK;
        return count;
    }

    int clears(int x) {
        if (x < 0 || x > 8) {
            return refuse(BAD);
        }
        leaveState();
        grammar[x] = EMPTY;
        row = new ArrayList<>();
        owner = BOOK;
        return 1;
    }

    private static int shortest(Term p) {
        switch (p.kind) {
            case 's':
                return 1;
            case ',':
            case '&':
                return shortest(p.parts.get(0)) + shortest(p.parts.get(1));
            case '|':
                return p.parts.stream().mapToInt(Model::shortest).min().getAsInt();
            default:
                return 0;
        }
    }

    private static int sortsIn(Term p) {
        int bits = p.kind == 's' ? 1 << p.sort : 0;
        for (Term part : p.parts) {
            bits |= sortsIn(part);
        }
        return bits;
    }

    int of(int x, int what) {
        if (x < 0 || x > 8 || what < 0 || what > 3) {
            return refuse(BAD);
        }
        Term p = grammar[x];
        return what == 0 ? (allowsEmpty(p) ? 1 : 0) : what == 1 ? due(p) : what == 2 ? sortsIn(p) : shortest(p);
    }

    int rows(int x, int n) {
        if (x < 0 || x > 8 || n < 0 || n > 6) {
            return refuse(BAD);
        }
        int count = 0;
        for (String one : rowsUpTo(grammar[x], n)) {
            count += one.length() == n ? 1 : 0;
        }
        return count;
    }

    // ---- books

    /** A FLAW, ordered by place, ends ahead of letters, inner ends ahead of outer ones. */
    record Flaw(int place, boolean letter, int depth, int due, boolean ending) {
        boolean isAheadOf(Flaw other) {
            if (other == null || place != other.place) {
                return other == null || place < other.place;
            }
            if (letter != other.letter) {
                return other.letter;
            }
            return depth > other.depth;
        }
    }

    private final class Book {
        int at;
        int letters;
        int deepest;
        Flaw first;

        int look() {
            while (at < text.length() && text.charAt(at) == ' ') {
                at++;
            }
            return at < text.length() ? text.charAt(at) : -1;
        }

        void tell(Flaw flaw) {
            if (flaw.isAheadOf(first)) {
                first = flaw;
            }
        }

        /** PARTS up to a ) or the end, with all FLAWS in them. */
        void parts(int whose, int depth) {
            Term p = grammar[whose];
            boolean good = true;
            for (int c = look(); c >= 'a' && c <= 'h'; c = look()) {
                int place = at;
                letters++;
                deepest = Math.max(deepest, depth + 1);
                Term next = derive(p, c - 'a');
                if (good && next == NOTHING) {
                    tell(new Flaw(place, true, depth, due(p), allowsEmpty(p)));
                    good = false;
                }
                p = next;
                at++;
                if (look() == '(') {
                    if (depth == 8) {
                        throw new IllegalStateException();
                    }
                    at++;
                    parts(c - 'a', depth + 1);
                    if (look() != ')') {
                        throw new IllegalStateException();
                    }
                    at++;
                } else if (!allowsEmpty(grammar[c - 'a'])) {
                    tell(new Flaw(at, false, depth + 1, due(grammar[c - 'a']), false));
                }
            }
            if (good && !allowsEmpty(p)) {
                tell(new Flaw(at, false, depth, due(p), false));
            }
        }
    }

    int judge(int what) {
        if (what < 0 || what > 5) {
            return refuse(BAD);
        }
        Book book = new Book();
        int fault = go(book);
        if (fault != NONE) {
            return -10 - fault;
        }
        Flaw flaw = book.first;
        switch (what) {
            case 0:
                return flaw == null ? 1 : 0;
            case 1:
                return flaw == null ? NONE : flaw.place;
            case 2:
                return flaw == null ? 0 : flaw.due;
            case 3:
                return flaw == null || flaw.ending ? 1 : 0;
            case 4:
                return book.letters;
            default:
                return book.deepest;
        }
    }

    private int go(Book book) {
        try {
            book.parts(BOOK, 0);
        } catch (IllegalStateException e) {
            return book.at;
        }
        return book.look() == -1 ? NONE : book.at;
    }

    int mark() {
        Book book = new Book();
        int fault = go(book);
        if (fault != NONE) {
            return -10 - fault;
        }
        if (book.letters == 0) {
            return Float.floatToIntBits(book.first == null ? 1f : 0f);
        }
        int ahead = 0;
        int end = book.first == null ? text.length() : book.first.place;
        for (int i = 0; i < end; i++) {
            ahead += text.charAt(i) >= 'a' ? 1 : 0;
        }
        return Float.floatToIntBits((float) ahead / (float) book.letters);
    }

    // ---- THE ROW

    private Term here() {
        Term p = grammar[owner];
        for (int s : row) {
            p = derive(p, s);
        }
        return p;
    }

    int begins(int x) {
        if (x < 0 || x > 8) {
            return refuse(BAD);
        }
        leaveState();
        row = new ArrayList<>();
        owner = x;
        return due(here());
    }

    int steps(int x) {
        if (x < 0 || x > 7) {
            return refuse(BAD);
        }
        if (derive(here(), x) == NOTHING) {
            return refuse(NO);
        }
        if (row.size() == 20) {
            return refuse(FULL);
        }
        leaveState();
        row.add(x);
        return due(here());
    }

    int now(int what) {
        if (what < 0 || what > 3) {
            return refuse(BAD);
        }
        return what == 0 ? due(here()) : what == 1 ? (allowsEmpty(here()) ? 1 : 0) : what == 2 ? row.size() : owner;
    }

    int back() {
        if (states.isEmpty()) {
            return refuse(NO);
        }
        State state = states.pop();
        grammar = state.grammar;
        row = state.row;
        owner = state.owner;
        return states.size();
    }

    int told(int what) {
        if (what < 0 || what > 4) {
            return refuse(BAD);
        }
        return what < 3 ? refusals[what] : what == 3 ? text.length() : states.size();
    }

    long digest() {
        long h = 2521;
        for (int what = 0; what < 5; what++) {
            h = 31 * h + told(what);
        }
        for (int x = 0; x < 9; x++) {
            for (int what = 0; what < 4; what++) {
                h = 31 * h + of(x, what);
            }
            for (int n = 1; n < 5; n++) {
                h = 31 * h + rows(x, n);
            }
        }
        for (int what = 0; what < 4; what++) {
            h = 31 * h + now(what);
        }
        for (int s : row) {
            h = 31 * h + s;
        }
        return h;
    }
}
