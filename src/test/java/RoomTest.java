import com.sun.management.ThreadMXBean;
import java.lang.management.ManagementFactory;
import java.util.NoSuchElementException;

/** The dearest run of 512 calls stays far below the room, and no call throws by itself, whatever it is told. */
public final class RoomTest {
    /** Five carts in one aisle: every tree by every bound is cut. */
    private static final String CUT = "row .....;cart a at 0 0 to 4 0;cart b at 3 0 to 3 0;cart c at 4 0 to 2 0;"
            + "cart d at 1 0 to 0 0;cart e at 2 0 to 1 0;";
    /** The whole room, at four bytes an element, is some thirty million bytes. */
    private static final long FEW_BYTES = 6_000_000L;
    private static final int[] NUMBERS = {Integer.MIN_VALUE, -7, -2, -1, 0, 1, 2, 3, 4, 5, 6, 10, 30, 39, 40, 41, 120,
        300, 301, Integer.MAX_VALUE};
    private static final Check CHECK = new Check("room");

    public static void main(String[] args) {
        ThreadMXBean bean = (ThreadMXBean) ManagementFactory.getThreadMXBean();
        long before = bean.getCurrentThreadAllocatedBytes();
        CartPaths paths = Check.of(CUT);
        for (int call = 0; call < 480; call++) {
            paths.plan(10 + call % 21, 1);
            if (call % 21 == 20) {
                paths.tell(0, 0, call % 2 == 0 ? 0 : 3);
            }
            paths.bestOrder(true);
        }
        long bytes = bean.getCurrentThreadAllocatedBytes() - before;
        CHECK.same("bytes of the dearest run are " + bytes + ", few", bytes < FEW_BYTES ? 1 : 0, 1);
        anyNumbers(new CartPaths());
        anyNumbers(Check.of(CUT));
        anyNumbers(Check.of("row ..;cart a at 0 0 to 1 0;"));
        anyNumbers(Check.of("row ...;row ...;cart a at 0 0 to 2 0;cart b at 2 0 to 0 0;"));
        CHECK.close();
    }

    private static void anyNumbers(CartPaths paths) {
        for (int a : NUMBERS) {
            for (int b : NUMBERS) {
                for (int c : NUMBERS) {
                    for (int call = 0; call < 40; call++) {
                        CHECK.same("call " + call + " of " + a + ", " + b + ", " + c + " throws what is told",
                                thrown(paths, call, a, b, c) ? 1 : 0, 1);
                    }
                }
            }
        }
    }

    private static boolean thrown(CartPaths paths, int call, int a, int b, int c) {
        try {
            ask(paths, call, a, b, c);
            return true;
        } catch (RuntimeException e) {
            Class<?> kind = e.getClass();
            // the machine's own exceptions are of other classes, or thrown from elsewhere than by a throw
            return kind == IndexOutOfBoundsException.class && e.getMessage() == null
                    || kind == IllegalArgumentException.class || kind == IllegalStateException.class
                    || kind == NoSuchElementException.class;
        }
    }

    /** One call of the face, by a number of its own. */
    static int ask(CartPaths paths, int call, int a, int b, int c) {
        switch (call) {
            case 0: return paths.end(a) ? 1 : 0;
            case 1: return paths.cell(a, b);
            case 2: return paths.cart(a, b);
            case 3: return paths.name(a, b);
            case 4: return paths.cost(a);
            case 5: return paths.alone(a, b);
            case 6: return paths.clash(a);
            case 7: return paths.reach(a);
            case 8: return paths.far(a, b, c, a);
            case 9: return paths.plan(a, b);
            case 10: return paths.node(a, b, c);
            case 11: return paths.at(a, b, c);
            case 12: return paths.move(a, b, c);
            case 13: return paths.used(a, b, c, true);
            case 14: return paths.busiest(a);
            case 15: return paths.waits(a);
            case 16: return paths.late(a, b, c, c, a);
            case 17: return paths.late(10, a, b, c, c);
            case 18: return paths.worse(a);
            case 19: return paths.who(a, b, c, b);
            case 20: return paths.near(a, b, c, true);
            case 21: return paths.without(a, b, c);
            case 22: return paths.follows(a, b, c);
            case 23: return paths.shared(a, b);
            case 24: return paths.slack(a, b, c);
            case 25: return paths.critical(a, b, true);
            case 26: return paths.ended(a, b);
            case 27: return paths.way(a, b, c);
            case 28: return paths.again(a, b);
            case 29: return paths.among(a);
            case 30: return paths.byTurns(a);
            case 31: return paths.turned(a, b, c);
            case 32: return paths.ordered(a, b);
            case 33: return paths.write(a, b);
            case 34: return paths.octet(a);
            case 35: return paths.count(a);
            case 36: return paths.tell(a, b, c);
            case 37: return paths.goal(a, b, c);
            case 38: paths.change(a, b); return 0;
            default: return paths.undo();
        }
    }
}
