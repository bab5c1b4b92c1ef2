/** Promises 9 to 12: cells and goals told anew, changed and undone. */
public final class ActsTest {
    private static final String SCENE = "row ...;row .#.;cart a at 0 0 to 2 0;cart b at 2 1 to 0 1;";
    private static final Check CHECK = new Check("acts");

    public static void main(String[] args) {
        tell();
        goal();
        change();
        undoAll();
        undoKeepsSixteen();
        answersFollowActs();
        CHECK.close();
    }

    private static void tell() {
        CartPaths paths = Check.of(SCENE);
        CHECK.same("tell wall free", paths.tell(1, 1, 0), 1);
        CHECK.same("it is free", paths.cell(1, 1), 0);
        CHECK.same("tell free down", paths.tell(1, 1, 4), 0);
        CHECK.same("tell it the same", paths.tell(1, 1, 4), 4);
        CHECK.same("each is an act", paths.count(5), 3);
        CHECK.same("tell it a wall", paths.tell(1, 1, 1), 4);
        CHECK.same("a place may be left one way", paths.tell(0, 0, 3), 0);
        CHECK.noPlace("no column", () -> paths.tell(3, 0, 9));
        CHECK.noPlace("no row", () -> paths.tell(0, 2, 0));
        CHECK.noPlace("column below 0", () -> paths.tell(-1, 0, 0));
        CHECK.noNumber("sort 6", () -> paths.tell(0, 0, 6));
        CHECK.noNumber("sort -1", () -> paths.tell(0, 0, -1));
        CHECK.noState("wall on a place", () -> paths.tell(0, 0, 1));
        CHECK.noState("wall on another place", () -> paths.tell(2, 1, 1));
        CHECK.noState("wall on a goal", () -> paths.tell(2, 0, 1));
        CHECK.noState("wall on another goal", () -> paths.tell(0, 1, 1));
        CHECK.same("what throws is no act", paths.count(5), 5);
        CHECK.same("what throws changes nothing", paths.cell(0, 0), 3);
    }

    private static void goal() {
        CartPaths paths = Check.of(SCENE);
        CHECK.same("goal", paths.goal(0, 1, 0), 2);
        CHECK.same("goal anew", paths.cart(0, 1), 1);
        CHECK.same("its own goal again", paths.goal(0, 1, 0), 1);
        CHECK.same("the goal that another had", paths.goal(1, 2, 0), 6);
        CHECK.same("another one's place", paths.goal(1, 0, 0), 2);
        CHECK.noPlace("no cart", () -> paths.goal(2, 0, 0));
        CHECK.noPlace("no cart below 0", () -> paths.goal(-1, 0, 0));
        CHECK.noPlace("no column", () -> paths.goal(0, 3, 0));
        CHECK.noPlace("no row", () -> paths.goal(0, 0, -1));
        CHECK.noState("a wall", () -> paths.goal(0, 1, 1));
        CHECK.noState("another one's goal", () -> paths.goal(0, 0, 0));
        CHECK.same("what throws is no act", paths.count(5), 4);
        CHECK.same("what throws changes nothing", paths.cart(0, 1), 1);
    }

    private static int changed(CartPaths paths, int cart, int other) {
        paths.change(cart, other);
        return 0;
    }

    private static void change() {
        CartPaths paths = Check.of(SCENE);
        paths.change(1, 0);
        CHECK.same("goal of a", paths.cart(0, 1), 6);
        CHECK.same("goal of b", paths.cart(1, 1), 2);
        CHECK.same("places stay", paths.cart(0, 0), 0);
        CHECK.noPlace("no other", () -> changed(paths, 0, 2));
        CHECK.noPlace("no cart", () -> changed(paths, 2, 2));
        CHECK.noPlace("no cart below 0", () -> changed(paths, -1, 0));
        CHECK.noNumber("both are one", () -> changed(paths, 1, 1));
        CHECK.same("one act", paths.count(5), 1);
    }

    private static void undoAll() {
        CartPaths paths = Check.of(SCENE);
        CHECK.same("nothing to undo", paths.undo(), -1);
        paths.tell(1, 1, 5);
        paths.goal(0, 1, 1);
        paths.change(0, 1);
        CHECK.same("three acts", paths.count(5), 3);
        CHECK.same("undo the change", paths.undo(), 2);
        CHECK.same("goal of a", paths.cart(0, 1), 7);
        CHECK.same("goal of b", paths.cart(1, 1), 6);
        CHECK.same("undo the goal", paths.undo(), 1);
        CHECK.same("goal of a as told", paths.cart(0, 1), 2);
        CHECK.same("the cell is still told anew", paths.cell(1, 1), 5);
        CHECK.same("undo the cell", paths.undo(), 0);
        CHECK.same("the cell as told", paths.cell(1, 1), 1);
        CHECK.same("no more", paths.undo(), -1);
    }

    private static void undoKeepsSixteen() {
        CartPaths paths = Check.of(SCENE);
        for (int k = 0; k < 18; k++) {
            paths.tell(1, 1, k % 5 == 0 ? 2 : k % 5 == 1 ? 3 : k % 5 == 2 ? 4 : k % 5 == 3 ? 5 : 0);
            CHECK.same("acts after " + k, paths.count(5), Math.min(16, k + 1));
        }
        for (int left = 15; left >= 0; left--) {
            CHECK.same("undo", paths.undo(), left);
        }
        CHECK.same("no more than sixteen", paths.undo(), -1);
        CHECK.same("as after the second act", paths.cell(1, 1), 3);
        CartPaths mixed = Check.of(SCENE);
        for (int k = 0; k < 20; k++) {
            switch (k % 3) {
                case 0:
                    mixed.tell(1, 1, k % 2 == 0 ? 0 : 2);
                    break;
                case 1:
                    mixed.goal(k % 2, 1, k % 2);
                    break;
                default:
                    mixed.change(0, 1);
                    break;
            }
        }
        for (int left = 15; left >= 0; left--) {
            CHECK.same("undo of all sorts", mixed.undo(), left);
        }
        // four acts stay: the cell is left up alone, the second goal of a is b's, b's is 7
        CHECK.same("the fourth act's cell", mixed.cell(1, 1), 2);
        CHECK.same("b's goal, changed", mixed.cart(0, 1), 7);
        CHECK.same("a's goal, changed", mixed.cart(1, 1), 2);
    }

    private static void answersFollowActs() {
        CartPaths paths = Check.of(SCENE);
        CHECK.same("b goes round", paths.cost(1), 4);
        // the free cells are one aisle, in which no cart passes another one
        CHECK.same("plan", paths.plan(10, 0), -2);
        CHECK.same("best order", paths.bestOrder(true), -1);
        paths.tell(1, 1, 0);
        CHECK.same("b goes straight", paths.cost(1), 2);
        CHECK.same("plan then", paths.plan(10, 0), 4);
        CHECK.same("best order then", paths.bestOrder(true), 4);
        CHECK.same("free cells", paths.count(3), 6);
        paths.goal(1, 1, 1);
        CHECK.same("b is nearer", paths.cost(1), 1);
        CHECK.same("plan with that goal", paths.plan(10, 0), 3);
        CHECK.same("order with that goal", paths.byTurns(0), 3);
        paths.undo();
        CHECK.same("plan without", paths.plan(10, 0), 4);
        CHECK.same("order without", paths.byTurns(0), 4);
        paths.change(0, 1);
        CHECK.same("a goes down", paths.cost(0), 1);
        CHECK.same("plan with changed goals", paths.plan(10, 0), 2);
        paths.undo();
        paths.undo();
        CHECK.same("as told", paths.plan(10, 0), -2);
        CHECK.same("order as told", paths.bestOrder(true), -1);
    }
}
