/** Promises 38 to 44: orders, what is written, what is counted. */
public final class TurnsTest {
    private static final Check CHECK = new Check("turns");

    public static void main(String[] args) {
        byTurns();
        changingPlacesIsForbidden();
        goalsAreHeld();
        ordersInRows();
        allFail();
        noCarts();
        written();
        counts();
        CHECK.close();
    }

    private static void byTurns() {
        CartPaths paths = Check.of(Scenes.CROSSING);
        CHECK.same("a first", paths.byTurns(0), 5);
        CHECK.same("b waits", paths.turned(0, 1, 1), 1);
        CHECK.same("b then", paths.turned(0, 1, 2), 7);
        CHECK.same("b ends", paths.turned(0, 1, 40), 13);
        CHECK.same("a does not wait", paths.turned(0, 0, 1), 7);
        CHECK.same("b first", paths.byTurns(1), 5);
        CHECK.same("a waits", paths.turned(1, 0, 1), 6);
        CHECK.same("b does not wait", paths.turned(1, 1, 1), 7);
        CHECK.same("the first of the best", paths.bestOrder(false), 0);
        CHECK.same("its sum", paths.bestOrder(true), 5);
        CHECK.noElement("order 2", () -> paths.byTurns(2));
        CHECK.noElement("order -1", () -> paths.byTurns(-1));
        CHECK.noPlace("no cart", () -> paths.turned(9, 2, 99));
        CHECK.noPlace("no cart below 0", () -> paths.turned(0, -1, 0));
        CHECK.noElement("no order", () -> paths.turned(2, 0, 99));
        CHECK.noElement("no order below 0", () -> paths.turned(-1, 0, 0));
        CHECK.noNumber("no time", () -> paths.turned(0, 0, 41));
        CHECK.noNumber("no time below 0", () -> paths.turned(0, 0, -1));
    }

    private static void changingPlacesIsForbidden() {
        CartPaths paths = Check.of("row ..;row ..;cart a at 0 0 to 1 0;cart b at 1 0 to 0 0;");
        CHECK.same("b goes round", paths.byTurns(0), 1 + 3);
        int[] b = {1, 7, 6, 0};
        for (int time = 0; time <= 3; time++) {
            CHECK.same("b's way", paths.turned(0, 1, time), b[time]);
        }
    }

    private static void goalsAreHeld() {
        // b's goal stands in a's way: b first, and a can never pass; a first, and b comes behind it
        CartPaths paths = Check.of("row ....;row .###;cart a at 0 0 to 3 0;cart b at 0 1 to 1 0;");
        CHECK.same("a first", paths.byTurns(0), 3 + 2);
        CHECK.same("b first", paths.byTurns(1), 3 + 2);
        CartPaths held = Check.of("row ...;row #.#;cart a at 0 0 to 2 0;cart b at 1 1 to 1 0;");
        CHECK.same("a passes first", held.byTurns(0), 2 + 2);
        CHECK.same("a cannot pass b", held.byTurns(1), -1);
        CHECK.noState("that order fails", () -> held.turned(1, 1, 0));
        CHECK.same("best order", held.bestOrder(false), 0);
        // cart a holds its goal at once: the first order fails, the second one is the best
        CartPaths second = Check.of("row ...;row #.#;cart a at 1 1 to 1 0;cart b at 0 0 to 2 0;");
        CHECK.same("first order fails", second.byTurns(0), -1);
        CHECK.same("second order", second.byTurns(1), 4);
        CHECK.same("best is the second", second.bestOrder(false), 1);
        CHECK.same("best sum", second.bestOrder(true), 4);
    }

    private static void ordersInRows() {
        CartPaths three = Check.of("row ...;cart a at 0 0 to 0 0;cart b at 1 0 to 1 0;cart c at 2 0 to 2 0;");
        int[][] due = {{0, 1, 2}, {0, 2, 1}, {1, 0, 2}, {1, 2, 0}, {2, 0, 1}, {2, 1, 0}};
        for (int order = 0; order < 6; order++) {
            for (int k = 0; k < 3; k++) {
                CHECK.same("order " + order + " cart " + k, three.ordered(order, k), due[order][k]);
            }
            int told = order;
            CHECK.noElement("no fourth", () -> three.ordered(told, 3));
            CHECK.noElement("none ahead", () -> three.ordered(told, -1));
        }
        CHECK.noElement("order 6", () -> three.ordered(6, 0));
        CHECK.noElement("order -1", () -> three.ordered(-1, 0));
        CHECK.same("orders of three", three.count(4), 6);
        CartPaths five = Check.of("row .....;cart a at 0 0 to 0 0;cart b at 1 0 to 1 0;cart c at 2 0 to 2 0;"
                + "cart d at 3 0 to 3 0;cart e at 4 0 to 4 0;");
        CHECK.same("orders of five", five.count(4), 120);
        for (int k = 0; k < 5; k++) {
            CHECK.same("first order", five.ordered(0, k), k);
            CHECK.same("last order", five.ordered(119, k), 4 - k);
        }
        CHECK.same("order 24 begins with b", five.ordered(24, 0), 1);
        CHECK.same("last order's sum", five.byTurns(119), 0);
        CHECK.noElement("order 120", () -> five.byTurns(120));
        // asking for a row of carts must not disturb the ways of another order
        CartPaths paths = Check.of(Scenes.CROSSING);
        CHECK.same("a first", paths.turned(0, 0, 1), 7);
        CHECK.same("order 1's first", paths.ordered(1, 0), 1);
        CHECK.same("a first still", paths.turned(0, 0, 1), 7);
        CHECK.same("b first", paths.turned(1, 0, 1), 6);
    }

    private static void allFail() {
        CartPaths paths = Check.of(Scenes.CUT);
        CHECK.same("a first", paths.byTurns(0), -1);
        CHECK.same("b first", paths.byTurns(1), -1);
        CHECK.same("no best", paths.bestOrder(false), -1);
        CHECK.same("no best sum", paths.bestOrder(true), -1);
        CHECK.noState("turned", () -> paths.turned(0, 0, 0));
        CHECK.noNumber("turned at no time", () -> paths.turned(0, 0, 41));
    }

    private static void noCarts() {
        CartPaths paths = Check.of("row ...;");
        CHECK.same("one order", paths.count(4), 1);
        CHECK.same("its sum", paths.byTurns(0), 0);
        CHECK.same("the best", paths.bestOrder(false), 0);
        CHECK.same("the best sum", paths.bestOrder(true), 0);
        CHECK.noElement("no cart in it", () -> paths.ordered(0, 0));
        CHECK.noElement("order 1", () -> paths.byTurns(1));
        CHECK.noPlace("turned", () -> paths.turned(0, 0, 0));
    }

    private static void octets(CartPaths paths, String due) {
        CHECK.same("bytes", paths.count(6), due.length());
        for (int k = 0; k < due.length(); k++) {
            CHECK.same("byte " + k, paths.octet(k), due.charAt(k));
        }
        CHECK.same("behind", paths.octet(due.length()), -1);
        CHECK.same("ahead", paths.octet(-1), -1);
    }

    private static void written() {
        CartPaths paths = Check.of(Scenes.CROSSING);
        CHECK.same("nothing yet", paths.octet(0), -1);
        CHECK.same("bytes at 1", paths.write(10, 1), 12);
        octets(paths, "#.#\n01.\n#.#\n");
        CHECK.same("bytes at 40", paths.write(10, 40), 12);
        octets(paths, "#.#\n..0\n#1#\n");
        CHECK.noNumber("bound 9", () -> paths.write(9, 0));
        CHECK.noNumber("bound 31", () -> paths.write(31, 0));
        CHECK.noNumber("time 41", () -> paths.write(10, 41));
        CHECK.noNumber("time -1", () -> paths.write(10, -1));
        octets(paths, "#.#\n..0\n#1#\n");
        paths.tell(1, 1, 1);
        CHECK.noState("no plan", () -> paths.write(10, 0));
        octets(paths, "#.#\n..0\n#1#\n");
        CartPaths signs = Check.of("row .#^>v<;row ......;row ......;row ......;row ......;row ......;");
        CHECK.same("the most bytes", signs.write(30, 0), 42);
        octets(signs, ".#^>v<\n......\n......\n......\n......\n......\n");
        Check.feed(signs, "row .;");
        CHECK.same("read anew", signs.read(), 0);
        CHECK.same("what was written stays", signs.count(6), 42);
        CHECK.same("one sign", signs.write(10, 0), 2);
        octets(signs, ".\n");
    }

    private static void counts() {
        CartPaths paths = Check.of(Scenes.CROSSING);
        paths.write(10, 0);
        paths.tell(0, 0, 3);
        int[] due = {3, 3, 2, 6, 2, 1, 12, 4};
        for (int what = 0; what < due.length; what++) {
            CHECK.same("count " + what, paths.count(what), due[what]);
        }
        CHECK.same("count 8", paths.count(8), -1);
        CHECK.same("count -1", paths.count(-1), -1);
        CartPaths none = Check.of("row .#.;cart a at 0 0 to 2 0;");
        CHECK.same("no sum alone", none.count(7), -1);
    }
}
