import java.util.Random;

/** Whatever was asked and done before, answers follow from the scene alone: a new object that reads it answers the same. */
public final class HistoryTest {
    private static final Check CHECK = new Check("history");
    private static final int SEEDS = 60;
    private static final int CHANGES = 14;
    private static final int ASKED = 25;

    private final Random random;
    private final CartPaths paths = new CartPaths();

    private HistoryTest(long seed) {
        random = new Random(seed);
    }

    public static void main(String[] args) {
        for (int seed = 0; seed < SEEDS; seed++) {
            HistoryTest test = new HistoryTest(seed);
            Check.feed(test.paths, OracleTest.scene(test.random));
            test.paths.read();
            for (int k = 0; k < CHANGES; k++) {
                test.change();
                test.compare();
            }
        }
        CHECK.close();
    }

    /** An act, an act that is undone, another text, or a wrong one; what is refused changes nothing. */
    private void change() {
        try {
            switch (random.nextInt(8)) {
                case 0:
                    Check.feed(paths, OracleTest.scene(random));
                    paths.read();
                    break;
                case 1:
                    Check.feed(paths, OracleTest.scene(random) + "?");
                    paths.read();
                    break;
                case 2:
                    paths.undo();
                    break;
                case 3:
                    paths.change(random.nextInt(5), random.nextInt(5));
                    break;
                case 4:
                case 5:
                    paths.goal(random.nextInt(5), random.nextInt(6), random.nextInt(6));
                    break;
                default:
                    paths.tell(random.nextInt(6), random.nextInt(6), random.nextInt(6));
                    break;
            }
        } catch (RuntimeException e) {
            CHECK.same("refused by a throw of its own: " + e, e.getMessage() == null ? 1 : 0, 1);
        }
    }

    private void compare() {
        String text = textOf(paths);
        CartPaths fresh = Check.of(text);
        for (int k = 0; k < ASKED; k++) {
            // the calls from 1 to 33 tell of the scene, plans and orders and change none of them
            int call = 1 + random.nextInt(33);
            boolean byBound = call >= 9 && call <= 28 && call != 17 || call == 33;
            int a = byBound ? 10 + random.nextInt(21) : random.nextInt(7) - 1;
            int b = random.nextInt(random.nextBoolean() ? 4 : 42);
            int c = random.nextInt(random.nextBoolean() ? 4 : 42);
            String asked = text + " call " + call + " of " + a + ", " + b + ", " + c;
            CHECK.same(asked, answer(paths, call, a, b, c), answer(fresh, call, a, b, c));
        }
        for (int what : new int[] {0, 1, 2, 3, 4, 7}) {
            CHECK.same(text + " count " + what, paths.count(what), fresh.count(what));
        }
    }

    /** The answer, or a number of its own for each exception. */
    private static long answer(CartPaths paths, int call, int a, int b, int c) {
        try {
            return RoomTest.ask(paths, call, a, b, c);
        } catch (RuntimeException e) {
            return Long.MAX_VALUE - e.getClass().getName().length();
        }
    }

    private static String textOf(CartPaths paths) {
        StringBuilder text = new StringBuilder();
        for (int y = 0; y < paths.count(1); y++) {
            text.append("row ");
            for (int x = 0; x < paths.count(0); x++) {
                text.append(".#^>v<".charAt(paths.cell(x, y)));
            }
            text.append(';');
        }
        for (int cart = 0; cart < paths.count(2); cart++) {
            text.append("cart ").append((char) paths.name(cart, 0));
            text.append(" at ").append(paths.cart(cart, 0) % 6).append(' ').append(paths.cart(cart, 0) / 6);
            text.append(" to ").append(paths.cart(cart, 1) % 6).append(' ').append(paths.cart(cart, 1) / 6).append(';');
        }
        return text.toString();
    }
}
