import java.util.Arrays;

/** Judges books of parts by a grammar; ../shared/DOC.md holds its promises and its terms (in capitals here). */
public final class ResidualJudge {
    public static final int NONE = -1, BAD = -2, NO = -3, FULL = -4;

    private static final int SORTS = 8;
    private static final int BOOK = 8;
    private static final int OWNERS = 9;
    private static final int TEXT_ROOM = 150;
    private static final int OPEN_ROOM = 8;
    private static final int ROW_ROOM = 20;
    private static final int STATE_ROOM = 4;
    private static final int LONGEST_COUNTED = 6;
    private static final int FAULT_BASE = -10;
    private static final long DIGEST_START = 2521L;

    // A PATTERN is one long: its nodes in postfix order, four bits each from the lowest, 0 behind the last one.
    // So THE GRAMMAR is nine numbers: a STATE costs no new object, and a changed PATTERN is told by one comparison.
    private static final int NODE_ROOM = 16;
    private static final int NODE_BITS = 4;
    private static final int NODE_MASK = 15;
    private static final int NO_NODE = 0;
    private static final int LAST_SORT = 8;
    private static final int EMPTY = 9;
    // The operators between two PATTERNS are numbered as they bind, so that the reader can compare them.
    private static final int EITHER = 10;
    private static final int MIXED = 11;
    private static final int BEHIND = 12;
    private static final int PERHAPS = 13;
    private static final int ANY_TIMES = 14;
    private static final int ONE_OR_MORE = 15;

    // Traits of a place in a PATTERN: the SORTS that are DUE, then ENDING, then the SORTS that lead to an ENDING.
    // Those of several places at once are had by or-ing them.
    private static final int DUE_MASK = 255;
    private static final int ENDING_BIT = 256;
    private static final int LAST_SHIFT = 9;

    private final Text text = new Text();
    private final Scene scene = new Scene();
    private final Past past = new Past();
    private final GrammarReader reader = new GrammarReader();
    private final Machines machines = new Machines();
    private final RowCounter counter = new RowCounter();
    private final BookJudge book = new BookJudge();
    private int refusedBad;
    private int refusedNo;
    private int refusedFull;

    public ResidualJudge() {
    }

    // ---- texts

    public int type(int c) {
        if (c < 0 || c > 127) {
            return refuse(BAD);
        }
        if (text.length >= TEXT_ROOM) {
            return refuse(FULL);
        }
        text.add(c);
        return text.length;
    }

    public int clear() {
        int had = text.length;
        text.length = 0;
        return had;
    }

    public int reads() {
        int answer = reader.readOrders(text, scene.patterns);
        if (answer <= FAULT_BASE) {
            return answer;
        }
        past.keep(scene);
        System.arraycopy(reader.patterns, 0, scene.patterns, 0, OWNERS);
        scene.emptyRow(BOOK);
        machines.follow(scene.patterns);
        return answer;
    }

    public int clears(int x) {
        if (!isOwner(x)) {
            return refuse(BAD);
        }
        past.keep(scene);
        scene.patterns[x] = EMPTY;
        scene.emptyRow(BOOK);
        machines.follow(scene.patterns);
        return 1;
    }

    public int of(int x, int what) {
        if (!isOwner(x) || what < 0 || what > 3) {
            return refuse(BAD);
        }
        return ofPattern(machines.at(x), what);
    }

    public int rows(int x, int n) {
        if (!isOwner(x) || n < 0 || n > LONGEST_COUNTED) {
            return refuse(BAD);
        }
        return counter.count(machines.at(x), n);
    }

    // ---- books

    public int judge(int what) {
        if (what < 0 || what > 5) {
            return refuse(BAD);
        }
        int fault = book.goThrough(text, machines);
        return fault == NONE ? ofBook(what) : FAULT_BASE - fault;
    }

    public int mark() {
        int fault = book.goThrough(text, machines);
        return fault == NONE ? bitsOf(book.share()) : FAULT_BASE - fault;
    }

    // ---- rows step by step

    public int begins(int x) {
        if (!isOwner(x)) {
            return refuse(BAD);
        }
        past.keep(scene);
        scene.emptyRow(x);
        return ofRow(0);
    }

    public int steps(int x) {
        if (x < 0 || x >= SORTS) {
            return refuse(BAD);
        }
        if ((ofRow(0) & 1 << x) == 0) {
            return refuse(NO);
        }
        if (scene.length >= ROW_ROOM) {
            return refuse(FULL);
        }
        past.keep(scene);
        scene.addToRow(x);
        return ofRow(0);
    }

    public int now(int what) {
        if (what < 0 || what > 3) {
            return refuse(BAD);
        }
        return ofRow(what);
    }

    // ---- what there is

    public int back() {
        if (past.count == 0) {
            return refuse(NO);
        }
        past.restore(scene);
        machines.follow(scene.patterns);
        return past.count;
    }

    public int told(int what) {
        if (what < 0 || what > 4) {
            return refuse(BAD);
        }
        return tally(what);
    }

    public long digest() {
        long h = DIGEST_START;
        for (int what = 0; what <= 4; what++) {
            h = 31 * h + tally(what);
        }
        for (int x = 0; x < OWNERS; x++) {
            Machine machine = machines.at(x);
            for (int what = 0; what <= 3; what++) {
                h = 31 * h + ofPattern(machine, what);
            }
            // Asked for ahead of the others, the longest ROWS have the shorter ones counted on the way.
            counter.count(machine, 4);
            for (int n = 1; n <= 4; n++) {
                h = 31 * h + counter.count(machine, n);
            }
        }
        for (int what = 0; what <= 3; what++) {
            h = 31 * h + ofRow(what);
        }
        for (int i = 0; i < scene.length && i < ROW_ROOM; i++) {
            h = 31 * h + scene.row[i];
        }
        return h;
    }

    private int refuse(int answer) {
        if (answer == BAD) {
            refusedBad++;
        } else if (answer == NO) {
            refusedNo++;
        } else {
            refusedFull++;
        }
        return answer;
    }

    private int tally(int what) {
        switch (what) {
            case 0:
                return refusedBad;
            case 1:
                return refusedNo;
            case 2:
                return refusedFull;
            case 3:
                return text.length;
            default:
                return past.count;
        }
    }

    private int ofBook(int what) {
        switch (what) {
            case 0:
                return book.flaw == NONE ? 1 : 0;
            case 1:
                return book.flaw;
            case 2:
                return book.due;
            case 3:
                return book.ending ? 1 : 0;
            case 4:
                return book.letters;
            default:
                return book.deepest;
        }
    }

    private int ofRow(int what) {
        if (what == 2) {
            return scene.length;
        }
        if (what == 3) {
            return scene.owner;
        }
        Machine machine = machines.at(scene.owner);
        int stand = scene.standIn(machine);
        if (what == 1) {
            return machine.isEnding(stand) ? 1 : 0;
        }
        return machine.due(stand);
    }

    private static int ofPattern(Machine machine, int what) {
        switch (what) {
            case 0:
                return machine.isEnding(Machine.START) ? 1 : 0;
            case 1:
                return machine.due(Machine.START);
            case 2:
                return machine.plan.sorts;
            default:
                return machine.plan.shortestRow();
        }
    }

    private static boolean isOwner(int x) {
        return x >= 0 && x < OWNERS;
    }

    private static int sortOf(int c) {
        return c >= 'a' && c <= 'h' ? c - 'a' : NONE;
    }

    /** A share's bits as a float, made by hand: no library call for them is left. It is 0, or 1/150 to 1. */
    private static int bitsOf(float share) {
        if (share <= 0f || share > 1f) {
            return 0;
        }
        float scaled = share;
        int exponent = 127;
        while (scaled < 1f && exponent > 1) {
            scaled = scaled * 2f;
            exponent--;
        }
        return exponent << 23 | (int) ((scaled - 1f) * 8388608f);
    }

    /** THE TEXT. */
    private static final class Text {
        private final byte[] bytes = new byte[TEXT_ROOM];
        private int length;

        void add(int c) {
            if (length < TEXT_ROOM) {
                bytes[length] = (byte) c;
                length++;
            }
        }

        int at(int place) {
            return place >= 0 && place < length && place < TEXT_ROOM ? bytes[place] : NONE;
        }
    }

    /** What a STATE holds: THE GRAMMAR and THE ROW. */
    private static final class Scene {
        private final long[] patterns = new long[OWNERS];
        private final int[] row = new int[ROW_ROOM];
        private int length;
        private int owner = BOOK;

        Scene() {
            Arrays.fill(patterns, EMPTY);
        }

        void emptyRow(int x) {
            owner = x;
            length = 0;
        }

        void addToRow(int sort) {
            if (length < ROW_ROOM) {
                row[length] = sort;
                length++;
            }
        }

        int standIn(Machine machine) {
            int stand = Machine.START;
            for (int i = 0; i < length && i < ROW_ROOM; i++) {
                stand = machine.step(stand, row[i]);
            }
            return stand;
        }

        void copyFrom(Scene other) {
            System.arraycopy(other.patterns, 0, patterns, 0, OWNERS);
            System.arraycopy(other.row, 0, row, 0, ROW_ROOM);
            length = other.length;
            owner = other.owner;
        }
    }

    /** The STATES to go back to, in a ring: one more than there is room for goes over the oldest. */
    private static final class Past {
        private final Scene[] scenes = new Scene[STATE_ROOM];
        private int count;
        private int newest;

        Past() {
            for (int i = 0; i < STATE_ROOM; i++) {
                scenes[i] = new Scene();
            }
        }

        void keep(Scene scene) {
            newest = newest + 1 < STATE_ROOM ? newest + 1 : 0;
            scenes[newest].copyFrom(scene);
            count = Math.min(count + 1, STATE_ROOM);
        }

        void restore(Scene scene) {
            if (count > 0) {
                scene.copyFrom(scenes[newest]);
                newest = newest > 0 ? newest - 1 : STATE_ROOM - 1;
                count--;
            }
        }
    }

    /** Reads THE TEXT as ORDERS; what they make of THE GRAMMAR stands in patterns until the next reading. */
    private static final class GrammarReader {
        private static final int WANTS_OWNER = 0;
        private static final int WANTS_EQUALS = 1;
        private static final int WANTS_UNIT = 2;
        private static final int HAS_UNIT = 3;
        private static final int BRACKET = 0;
        private static final int ABOVE_BRACKET = 1;

        private final long[] patterns = new long[OWNERS];
        // The operators that still wait for their right side, and the open brackets among them.
        private final int[] waiting = new int[NODE_ROOM + OPEN_ROOM];
        private int waits;
        private int open;
        private int nodes;
        private int placed;
        private long pattern;
        private int owner;
        private int phase;
        private int orders;

        /** How many ORDERS there are, or FAULT_BASE less the FAULT. */
        int readOrders(Text text, long[] before) {
            System.arraycopy(before, 0, patterns, 0, OWNERS);
            phase = WANTS_OWNER;
            orders = 0;
            for (int i = 0; i < text.length; i++) {
                int c = text.at(i);
                if (c != ' ' && !takes(c)) {
                    return FAULT_BASE - i;
                }
            }
            return phase == WANTS_OWNER && orders > 0 ? orders : FAULT_BASE - text.length;
        }

        private boolean takes(int c) {
            switch (phase) {
                case WANTS_OWNER:
                    return takesOwner(c);
                case WANTS_EQUALS:
                    phase = WANTS_UNIT;
                    return c == '=';
                case WANTS_UNIT:
                    return takesUnit(c);
                default:
                    return takesBehindUnit(c);
            }
        }

        private boolean takesOwner(int c) {
            owner = c == '^' ? BOOK : sortOf(c);
            waits = 0;
            open = 0;
            nodes = 0;
            placed = 0;
            pattern = 0;
            phase = WANTS_EQUALS;
            return owner != NONE;
        }

        private boolean takesUnit(int c) {
            if (c == '(') {
                open++;
                return open <= OPEN_ROOM && waitsFor(BRACKET);
            }
            phase = HAS_UNIT;
            int sort = sortOf(c);
            if (sort != NONE) {
                return countsNode() && places(sort + 1);
            }
            return c == '_' && countsNode() && places(EMPTY);
        }

        private boolean takesBehindUnit(int c) {
            switch (c) {
                case '?':
                    return countsNode() && places(PERHAPS);
                case '*':
                    return countsNode() && places(ANY_TIMES);
                case '+':
                    return countsNode() && places(ONE_OR_MORE);
                case ',':
                    return countsNode() && takesBetween(BEHIND);
                case '&':
                    return countsNode() && takesBetween(MIXED);
                case '|':
                    return countsNode() && takesBetween(EITHER);
                case ')':
                    return open > 0 && takesClosing();
                case ';':
                    return open == 0 && takesEnd();
                default:
                    return false;
            }
        }

        /** Counts a node as it is read, since the FAULT is at the byte that is one too many. */
        private boolean countsNode() {
            nodes++;
            return nodes <= NODE_ROOM;
        }

        private boolean takesBetween(int operator) {
            placeWaiting(operator);
            phase = WANTS_UNIT;
            return waitsFor(operator);
        }

        private boolean takesClosing() {
            placeWaiting(ABOVE_BRACKET);
            waits = Math.max(0, waits - 1);
            open--;
            return true;
        }

        private boolean takesEnd() {
            if (!isOwner(owner)) {
                return false;
            }
            placeWaiting(ABOVE_BRACKET);
            patterns[owner] = pattern;
            orders++;
            phase = WANTS_OWNER;
            return true;
        }

        private boolean waitsFor(int operator) {
            if (waits < 0 || waits >= waiting.length) {
                return false;
            }
            waiting[waits] = operator;
            waits++;
            return true;
        }

        /** Places the newest waiting operators, down to the first that binds less than the given one. */
        private void placeWaiting(int operator) {
            while (waits > 0 && waits <= waiting.length && waiting[waits - 1] >= operator) {
                waits--;
                places(waiting[waits]);
            }
        }

        private boolean places(int kind) {
            if (placed >= NODE_ROOM) {
                return false;
            }
            pattern |= (long) kind << NODE_BITS * placed;
            placed++;
            return true;
        }
    }

    /**
     * A PATTERN's nodes, the places that a ROW can come to in it, and the moves from place to place. Place 0 is the
     * beginning; no move leads to it. A SORT has two places; P , Q and P | Q have those of both, with one beginning
     * for two; P & Q has one for each pair. Of 16 nodes 8 at most are SORTS: so there are never more than 256 places.
     */
    private static final class Plan {
        private static final int PLACE_BITS = 8;
        private static final int PLACE_MASK = 255;
        private static final int PLACE_ROOM = 256;
        private static final int FIRST_ROOM = 4;

        private final int[] kinds = new int[NODE_ROOM];
        // The first node of all that a node is made of: ahead of where its right side starts, its left side ends.
        private final int[] starts = new int[NODE_ROOM];
        private final int[] lefts = new int[NODE_ROOM];
        private final int[] spans = new int[NODE_ROOM];
        private final int[] shortest = new int[NODE_ROOM];
        private int root;
        private int places;
        private int sorts;
        private int[] traits = new int[FIRST_ROOM];
        private int[] moves = new int[FIRST_ROOM];
        private int[] moveStarts = new int[FIRST_ROOM];
        private int[] moveEnds = new int[FIRST_ROOM];
        private int moveCount;
        private int leaving;

        void findNodes(long pattern) {
            root = NONE;
            sorts = 0;
            for (int node = 0; node < NODE_ROOM; node++) {
                int kind = (int) (pattern >>> NODE_BITS * node) & NODE_MASK;
                if (kind == NO_NODE) {
                    break;
                }
                kinds[node] = kind;
                measure(node);
                root = node;
            }
        }

        void findPlaces() {
            places = root >= 0 ? Math.min(spans[root], PLACE_ROOM) : 0;
            if (traits.length < places) {
                traits = new int[places];
                moveStarts = new int[places];
                moveEnds = new int[places];
            }
            for (int place = 0; place < places; place++) {
                traits[place] = allows(root, place) ? ENDING_BIT : 0;
            }
        }

        void findMoves() {
            moveCount = 0;
            for (int place = 0; place < places; place++) {
                leaving = place;
                moveStarts[place] = moveCount;
                leave(root, place, 1, 0);
                moveEnds[place] = moveCount;
            }
        }

        int shortestRow() {
            return root >= 0 ? shortest[root] : 0;
        }

        /** Adds the places that a SORT leads to from a place to a set of places: their traits. */
        int addTargets(int place, int sort, long[] set) {
            int met = 0;
            if (place < 0 || place >= places) {
                return met;
            }
            for (int i = moveStarts[place]; i < moveEnds[place]; i++) {
                int target = moves[i] & PLACE_MASK;
                if (moves[i] >> PLACE_BITS == sort && target < places && target >> 6 < set.length) {
                    set[target >> 6] |= 1L << (target & 63);
                    met |= traits[target];
                }
            }
            return met;
        }

        private void measure(int node) {
            int kind = kinds[node];
            int right = node - 1;
            int left = right >= 0 ? starts[right] - 1 : NONE;
            lefts[node] = left;
            if (kind <= EMPTY || right < 0) {
                starts[node] = node;
                spans[node] = kind <= LAST_SORT ? 2 : 1;
                shortest[node] = kind <= LAST_SORT ? 1 : 0;
                sorts |= kind <= LAST_SORT ? 1 << kind - 1 : 0;
            } else if (kind >= PERHAPS || left < 0) {
                starts[node] = starts[right];
                spans[node] = spans[right];
                shortest[node] = kind == ONE_OR_MORE ? shortest[right] : 0;
            } else {
                starts[node] = starts[left];
                spans[node] = kind == MIXED ? spans[left] * spans[right] : spans[left] + spans[right] - 1;
                shortest[node] = kind == EITHER ? Math.min(shortest[left], shortest[right])
                        : shortest[left] + shortest[right];
            }
        }

        /** Whether a ROW may end at a node's place. The nodes below a node have lower numbers: that ends it. */
        private boolean allows(int node, int place) {
            if (node < 0) {
                return false;
            }
            int kind = kinds[node];
            int right = node - 1;
            int left = lefts[node];
            if (kind <= EMPTY) {
                return kind == EMPTY || place == 1;
            }
            if (kind >= PERHAPS) {
                return place == 0 && kind != ONE_OR_MORE || allows(right, place);
            }
            if (left < 0 || spans[right] <= 0) {
                return false;
            }
            if (kind == MIXED) {
                return allows(left, place / spans[right]) && allows(right, place % spans[right]);
            }
            if (place >= spans[left]) {
                return allows(right, place - spans[left] + 1);
            }
            if (kind == BEHIND) {
                return shortest[right] == 0 && allows(left, place);
            }
            return allows(left, place) || place == 0 && shortest[right] == 0;
        }

        /** Keeps the moves out of a node's place; its place p is place p * scale + shift of the whole PATTERN. */
        private void leave(int node, int place, int scale, int shift) {
            if (node < 0) {
                return;
            }
            int kind = kinds[node];
            if (kind <= LAST_SORT) {
                if (place == 0) {
                    keepMove(kind - 1, scale + shift);
                }
            } else if (kind >= PERHAPS) {
                leaveTimes(node, place, scale, shift);
            } else if (kind == MIXED) {
                leaveMix(node, place, scale, shift);
            } else if (kind != EMPTY) {
                leavePair(node, place, scale, shift);
            }
        }

        private void leaveTimes(int node, int place, int scale, int shift) {
            int inner = node - 1;
            leave(inner, place, scale, shift);
            if (kinds[node] != PERHAPS && place != 0 && allows(inner, place)) {
                leave(inner, 0, scale, shift);
            }
        }

        private void leaveMix(int node, int place, int scale, int shift) {
            int right = node - 1;
            int wide = right >= 0 ? spans[right] : 0;
            if (wide > 0) {
                int leftPlace = place / wide;
                int rightPlace = place % wide;
                leave(lefts[node], leftPlace, scale * wide, shift + scale * rightPlace);
                leave(right, rightPlace, scale, shift + scale * leftPlace * wide);
            }
        }

        /** Of P , Q and P | Q: the places of Q but for its beginning are numbered behind those of P. */
        private void leavePair(int node, int place, int scale, int shift) {
            int right = node - 1;
            int left = lefts[node];
            if (left < 0) {
                return;
            }
            int rightShift = shift + scale * (spans[left] - 1);
            if (place >= spans[left]) {
                leave(right, place - spans[left] + 1, scale, rightShift);
                return;
            }
            leave(left, place, scale, shift);
            if (kinds[node] == BEHIND ? allows(left, place) : place == 0) {
                leave(right, 0, scale, rightShift);
            }
        }

        private void keepMove(int sort, int target) {
            if (target < 0 || target >= places || leaving < 0 || leaving >= places) {
                return;
            }
            int move = sort << PLACE_BITS | target;
            for (int i = moveStarts[leaving]; i < moveCount; i++) {
                if (moves[i] == move) {
                    return;
                }
            }
            if (moveCount >= moves.length) {
                moves = Arrays.copyOf(moves, 2 * moveCount);
            }
            moves[moveCount] = move;
            moveCount++;
            traits[leaving] |= 1 << sort;
            if ((traits[target] & ENDING_BIT) != 0) {
                traits[leaving] |= 1 << LAST_SHIFT + sort;
            }
        }
    }

    /**
     * Goes through ROWS of one PATTERN. A stand is the set of all places that a ROW can have come to; stands are found
     * as they are stepped to, and kept, so that a step that was made once is only looked up.
     */
    private static final class Machine {
        private static final int START = 0;
        private static final int UNKNOWN = -2;
        private static final int FIRST_ROOM = 8;
        // No ROW counted has more than 5 STEPS made: that and 512 calls of single STEPS find fewer stands than this.
        private static final int STAND_ROOM = 65536;
        private static final int CHAINS = 64;
        private static final int WORD_ROOM = 4;

        private final Plan plan = new Plan();
        private long pattern;
        private int words;
        private int known;
        private long[] sets = new long[FIRST_ROOM];
        private int[] nexts = new int[FIRST_ROOM * SORTS];
        private int[] traits = new int[FIRST_ROOM];
        private int[] olders = new int[FIRST_ROOM];
        private final int[] newests = new int[CHAINS];
        private final long[] found = new long[WORD_ROOM];
        private int foundTraits;
        private final int[] counts = new int[LONGEST_COUNTED + 1];
        private int counted;

        void load(long wanted) {
            if (pattern == wanted) {
                return;
            }
            pattern = wanted;
            plan.findNodes(wanted);
            plan.findPlaces();
            plan.findMoves();
            words = Math.max(1, Math.min(WORD_ROOM, plan.places + 63 >> 6));
            known = 0;
            counted = NONE;
            Arrays.fill(newests, NONE);
            Arrays.fill(found, 0L);
            found[0] = 1L;
            foundTraits = plan.traits[0];
            foundStand();
        }

        int due(int stand) {
            return traitsOf(stand) & DUE_MASK;
        }

        boolean isEnding(int stand) {
            return (traitsOf(stand) & ENDING_BIT) != 0;
        }

        /** With how many SORTS one more STEP makes a ROW that may end. */
        int lastSteps(int stand) {
            return Integer.bitCount(traitsOf(stand) >> LAST_SHIFT);
        }

        /** The stand that a STEP leads to; NONE, if the SORT can not stand there. */
        int step(int stand, int sort) {
            if (sort < 0 || sort >= SORTS || (due(stand) & 1 << sort) == 0) {
                return NONE;
            }
            int next = nexts[stand * SORTS + sort];
            if (next == UNKNOWN) {
                findTargets(stand, sort);
                next = foundStand();
                nexts[stand * SORTS + sort] = next;
            }
            return next;
        }

        private int traitsOf(int stand) {
            return stand >= 0 && stand < known ? traits[stand] : 0;
        }

        private void findTargets(int stand, int sort) {
            Arrays.fill(found, 0L);
            foundTraits = 0;
            for (int w = 0; w < words; w++) {
                long bits = sets[stand * words + w];
                for (int left = Long.bitCount(bits); left > 0; left--) {
                    int lowest = Long.bitCount((bits & -bits) - 1);
                    foundTraits |= plan.addTargets(w * 64 + lowest, sort, found);
                    bits &= bits - 1;
                }
            }
        }

        /** The number of the stand whose places were found, a new one if there is none yet. */
        private int foundStand() {
            int chain = chainOfFound();
            int stand = newests[chain];
            for (int i = 0; i < known && stand >= 0 && stand < known; i++) {
                if (isFound(stand)) {
                    return stand;
                }
                stand = olders[stand];
            }
            return known < STAND_ROOM ? newStand(chain) : NONE;
        }

        private int newStand(int chain) {
            makeRoom();
            int stand = known;
            known++;
            for (int w = 0; w < words; w++) {
                sets[stand * words + w] = found[w];
            }
            for (int sort = 0; sort < SORTS; sort++) {
                nexts[stand * SORTS + sort] = UNKNOWN;
            }
            traits[stand] = foundTraits;
            olders[stand] = newests[chain];
            newests[chain] = stand;
            return stand;
        }

        private void makeRoom() {
            if (known >= traits.length) {
                traits = Arrays.copyOf(traits, 2 * known);
                olders = Arrays.copyOf(olders, 2 * known);
                nexts = Arrays.copyOf(nexts, 2 * known * SORTS);
            }
            if (sets.length < traits.length * words) {
                sets = Arrays.copyOf(sets, traits.length * words);
            }
        }

        private boolean isFound(int stand) {
            for (int w = 0; w < words; w++) {
                if (sets[stand * words + w] != found[w]) {
                    return false;
                }
            }
            return true;
        }

        private int chainOfFound() {
            long h = 0;
            for (int w = 0; w < words; w++) {
                h = (h ^ found[w]) * 0x9E3779B97F4A7C15L;
            }
            return (int) (h >>> 58) & CHAINS - 1;
        }
    }

    /** A machine for each PATTERN of THE GRAMMAR. */
    private static final class Machines {
        private final Machine[] all = new Machine[OWNERS];

        /** For THE GRAMMAR as it is at first. */
        Machines() {
            for (int x = 0; x < OWNERS; x++) {
                all[x] = new Machine();
                all[x].load(EMPTY);
            }
        }

        /** To be called whenever THE GRAMMAR may have changed; a PATTERN that has not keeps what is known of it. */
        void follow(long[] patterns) {
            for (int x = 0; x < OWNERS && x < patterns.length; x++) {
                all[x].load(patterns[x]);
            }
        }

        Machine at(int x) {
            return all[isOwner(x) ? x : BOOK];
        }
    }

    /** Counts ROWS: in how many ways each stand is come to, one STEP after the other. */
    private static final class RowCounter {
        private static final int FIRST_ROOM = 16;

        private int[] ways = new int[FIRST_ROOM];
        private int[] waysOn = new int[FIRST_ROOM];

        int count(Machine machine, int n) {
            if (n < 0 || n > LONGEST_COUNTED) {
                return 0;
            }
            if (n > machine.counted) {
                begin(machine);
                for (int length = 1; length <= n; length++) {
                    machine.counts[length] = lastSteps(machine);
                    if (length < n) {
                        stepOn(machine);
                    }
                }
                machine.counted = n;
            }
            return machine.counts[n];
        }

        private void begin(Machine machine) {
            Arrays.fill(ways, 0);
            ways[Machine.START] = 1;
            machine.counts[0] = machine.isEnding(Machine.START) ? 1 : 0;
        }

        /** ROWS one SORT longer than those counted in ways: their last STEPS are told without being made. */
        private int lastSteps(Machine machine) {
            int sum = 0;
            for (int stand = 0; stand < machine.known && stand < ways.length; stand++) {
                if (ways[stand] != 0) {
                    sum += ways[stand] * machine.lastSteps(stand);
                }
            }
            return sum;
        }

        private void stepOn(Machine machine) {
            Arrays.fill(waysOn, 0);
            int known = Math.min(machine.known, ways.length);
            for (int stand = 0; stand < known; stand++) {
                for (int sort = 0; sort < SORTS && ways[stand] != 0; sort++) {
                    int next = machine.step(stand, sort);
                    if (next >= waysOn.length) {
                        waysOn = Arrays.copyOf(waysOn, 2 * next);
                    }
                    if (next >= 0) {
                        waysOn[next] += ways[stand];
                    }
                }
            }
            int[] done = ways;
            ways = waysOn;
            waysOn = done;
        }
    }

    /** Goes through THE TEXT as a BOOK, and holds what it found until it goes through the next one. */
    private static final class BookJudge {
        // Whose PARTS are open, THE BOOK's first, and where the ROW of SORTS in each of them stands.
        private final int[] owners = new int[OPEN_ROOM + 1];
        private final int[] stands = new int[OPEN_ROOM + 1];
        private int depth;
        // The SORT of the PART ahead, as long as its ( can come yet.
        private int bare;
        private int flaw;
        private int due;
        private boolean ending;
        private int letters;
        private int lettersAhead;
        private int deepest;

        /** The FAULT, or NONE. */
        int goThrough(Text text, Machines machines) {
            begin();
            for (int i = 0; i < text.length; i++) {
                int c = text.at(i);
                int sort = sortOf(c);
                if (sort != NONE) {
                    takeLetter(machines, sort, i);
                } else if (c == '(' && bare != NONE && depth < OPEN_ROOM) {
                    takeOpening();
                } else if (c == ')' && depth > 0) {
                    takeClosing(machines, i);
                } else if (c != ' ') {
                    return i;
                }
            }
            if (depth > 0) {
                return text.length;
            }
            endBare(machines, text.length);
            endRow(machines, text.length);
            return NONE;
        }

        float share() {
            if (letters == 0) {
                return flaw == NONE ? 1f : 0f;
            }
            return (float) (flaw == NONE ? letters : lettersAhead) / (float) letters;
        }

        private void begin() {
            depth = 0;
            owners[0] = BOOK;
            stands[0] = Machine.START;
            bare = NONE;
            flaw = NONE;
            due = 0;
            ending = true;
            letters = 0;
            lettersAhead = 0;
            deepest = 0;
        }

        private void takeLetter(Machines machines, int sort, int place) {
            endBare(machines, place);
            if (flaw == NONE) {
                Machine machine = machines.at(owners[depth]);
                int next = machine.step(stands[depth], sort);
                if (next == NONE) {
                    tellFlaw(place, machine, stands[depth]);
                } else {
                    stands[depth] = next;
                }
            }
            letters++;
            deepest = Math.max(deepest, depth + 1);
            bare = sort;
        }

        private void takeOpening() {
            depth++;
            owners[depth] = bare;
            stands[depth] = Machine.START;
            bare = NONE;
        }

        private void takeClosing(Machines machines, int place) {
            endBare(machines, place);
            endRow(machines, place);
            depth--;
        }

        private void endBare(Machines machines, int place) {
            if (bare != NONE) {
                endAt(place, machines.at(bare), Machine.START);
                bare = NONE;
            }
        }

        private void endRow(Machines machines, int place) {
            endAt(place, machines.at(owners[depth]), stands[depth]);
        }

        private void endAt(int place, Machine machine, int stand) {
            if (flaw == NONE && !machine.isEnding(stand)) {
                tellFlaw(place, machine, stand);
            }
        }

        private void tellFlaw(int place, Machine machine, int stand) {
            flaw = place;
            due = machine.due(stand);
            ending = machine.isEnding(stand);
            lettersAhead = letters;
        }
    }
}
