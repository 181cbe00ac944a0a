import com.sun.management.ThreadMXBean;
import java.lang.management.ManagementFactory;

/** The dearest runs of calls that were found stay far inside the room that all calls of one run share. */
public final class RoomTest {
    // The room holds 7.3 million elements, most of 4 bytes or 8: a quarter of it at most.
    private static final long MOST_BYTES = 7_300_000L;

    private static final String[] DEAREST = {
        "a=(f&b)&((h|b|f)&a?&d?)*;b=f&(((c|d)&(f|e)*)*&a)+&c;c=b&c&(d&((b|a)&c*)*)*&a;d=(b?&(d+|c)&e?&a?)+&c;"
            + "e=(b&((a|c)&((d|b|a)&e)*)*)*;",
        "a=a&b&c&d&e&f&g&h*;b=a&b&c&d&e&f&g&h*;c=a&b&c&d&e&f&g&h*;d=a&b&c&d&e&f&g&h*;e=a&b&c&d&e&f&g&h*;"
            + "f=a&b&c&d&e&f&g&h*;g=a&b&c&d&e&f&g&h*;",
    };

    public static void main(String[] args) {
        ThreadMXBean bean = (ThreadMXBean) ManagementFactory.getThreadMXBean();
        run();
        long before = bean.getCurrentThreadAllocatedBytes();
        run();
        long most = bean.getCurrentThreadAllocatedBytes() - before;
        System.out.println("RoomTest: " + most + " bytes of " + MOST_BYTES);
        if (most > MOST_BYTES) {
            System.exit(1);
        }
    }

    private static void run() {
        ResidualJudge judge = new ResidualJudge();
        int calls = 0;
        for (String grammar : DEAREST) {
            judge.clear();
            for (int i = 0; i < grammar.length(); i++) {
                judge.type(grammar.charAt(i));
                calls++;
            }
            if (judge.reads() < 0) {
                throw new IllegalStateException("a fault in " + grammar);
            }
            for (int x = 0; x <= 8; x++) {
                judge.rows(x, 6);
                calls++;
            }
        }
        while (calls < 512) {
            judge.back();
            judge.digest();
            judge.reads();
            judge.digest();
            judge.judge(0);
            calls += 5;
        }
    }
}
