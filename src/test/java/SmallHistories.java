import java.util.ArrayList;
import java.util.List;

/** Every short history of calls that leave STATES, go back or are refused: what there is after each of its calls. */
public final class SmallHistories {
    private static final String GRAMMAR = "a=a,a;^=a*;";
    private static final int BOOK = 8;

    /** THE GRAMMAR (whether a and THE BOOK have the PATTERNS of the text, or _) and THE ROW. */
    private record Scene(boolean toldA, boolean toldBook, int owner, int length) {
        boolean told() {
            return owner == BOOK ? toldBook : toldA;
        }

        boolean mayStep() {
            return told() && (owner == BOOK || length < 2);
        }

        boolean ending() {
            return told() ? owner == BOOK || length == 2 : length == 0;
        }
    }

    private record World(Scene now, List<Scene> past, int refusedNo) {
        World to(Scene next) {
            List<Scene> longer = new ArrayList<>(past);
            longer.add(now);
            return new World(next, longer.subList(Math.max(0, longer.size() - 4), longer.size()), refusedNo);
        }

        World refused() {
            return new World(now, past, refusedNo + 1);
        }
    }

    private static long histories;
    private static int wrong;

    public static void main(String[] args) {
        goOn("", "r0c8sb", 7);
        // So long that more STATES are left than there is room for, and all of them gone back to.
        goOn("r", "0sb", 10);
        System.out.println("SmallHistories: " + histories + " histories, " + wrong + " not as due");
        if (wrong != 0) {
            System.exit(1);
        }
    }

    private static void goOn(String history, String ways, int left) {
        if (left == 0) {
            check(history);
            return;
        }
        for (char way : ways.toCharArray()) {
            goOn(history + way, ways, left - 1);
        }
    }

    private static void check(String history) {
        ResidualJudge judge = new ResidualJudge();
        for (char c : GRAMMAR.toCharArray()) {
            judge.type(c);
        }
        World world = new World(new Scene(false, false, BOOK, 0), List.of(), 0);
        boolean good = true;
        for (char way : history.toCharArray()) {
            int answer = call(judge, way);
            World next = after(world, way);
            good &= answer == due(world, next, way) && isSeen(judge, next);
            world = next;
        }
        histories++;
        if (!good) {
            wrong++;
            System.out.println("not as due: " + history);
        }
    }

    private static int call(ResidualJudge judge, char way) {
        switch (way) {
            case 'r':
                return judge.reads();
            case '0':
                return judge.begins(0);
            case '8':
                return judge.begins(BOOK);
            case 'c':
                return judge.clears(0);
            case 's':
                return judge.steps(0);
            default:
                return judge.back();
        }
    }

    private static World after(World world, char way) {
        Scene now = world.now;
        switch (way) {
            case 'r':
                return world.to(new Scene(true, true, BOOK, 0));
            case '0':
                return world.to(new Scene(now.toldA, now.toldBook, 0, 0));
            case '8':
                return world.to(new Scene(now.toldA, now.toldBook, BOOK, 0));
            case 'c':
                return world.to(new Scene(false, now.toldBook, BOOK, 0));
            case 's':
                return now.mayStep() ? world.to(new Scene(now.toldA, now.toldBook, now.owner, now.length + 1))
                        : world.refused();
            default:
                int states = world.past.size();
                return states == 0 ? world.refused()
                        : new World(world.past.get(states - 1), world.past.subList(0, states - 1), world.refusedNo);
        }
    }

    private static int due(World before, World after, char way) {
        if (after.refusedNo != before.refusedNo) {
            return ResidualJudge.NO;
        }
        switch (way) {
            case 'r':
                return 2;
            case 'c':
                return 1;
            case 'b':
                return after.past.size();
            default:
                return after.now.mayStep() ? 1 : 0;
        }
    }

    private static boolean isSeen(ResidualJudge judge, World world) {
        Scene now = world.now;
        return judge.told(1) == world.refusedNo && judge.told(4) == world.past.size()
                && judge.told(3) == GRAMMAR.length() && judge.of(0, 3) == (now.toldA ? 2 : 0)
                && judge.of(BOOK, 2) == (now.toldBook ? 1 : 0) && judge.now(0) == (now.mayStep() ? 1 : 0)
                && judge.now(1) == (now.ending() ? 1 : 0) && judge.now(2) == now.length && judge.now(3) == now.owner;
    }
}
