/** Acts, sentence by sentence: promises 9 to 12. */
final class EdgeActs {
    /** Cells 1 and 7 are nobody's. */
    private static final String SCENE = "row ...;row ...;cart a at 0 0 to 2 0;cart b at 2 1 to 0 1;";
    private static final int KEPT = 16;

    private final Check check;

    EdgeActs(Check check) {
        this.check = check;
    }

    void look() {
        tell();
        goal();
        change();
        kept();
        undone();
        firstAskedAfterManyActs();
    }

    private void tell() {
        check.promise(9, "A CELL has another SORT: what it had.");
        CartPaths paths = Check.of(SCENE);
        int before = 0;
        for (int sort : new int[] {5, 4, 3, 2, 1, 0, 0, 1, 1}) {
            check.same("tell " + sort, paths.tell(1, 1, sort), before);
            check.same("it is " + sort, paths.cell(1, 1), sort);
            before = sort;
        }
        check.promise(9, "IllegalArgumentException: the SORT is none;");
        for (int sort : new int[] {-1, 6, Integer.MIN_VALUE, Integer.MAX_VALUE}) {
            check.noNumber("sort " + sort, () -> paths.tell(1, 0, sort));
        }
        check.same("it stays", paths.cell(1, 0), 0);
        check.promise(9, "IllegalStateException: it would be a WALL where a CART has its PLACE, or GOAL.");
        for (int cell : new int[] {0, 2, 6, 8}) {
            check.noState("wall on " + cell, () -> paths.tell(cell % 6, cell / 6, 1));
            check.same("one way on " + cell, paths.tell(cell % 6, cell / 6, 3), 0);
            check.noState("wall on one way on " + cell, () -> paths.tell(cell % 6, cell / 6, 1));
            check.same("free again", paths.tell(cell % 6, cell / 6, 0), 3);
        }
        check.same("a wall elsewhere", paths.tell(1, 0, 1), 0);
        paths.goal(0, 0, 0);
        check.same("a wall where a goal was", paths.tell(2, 0, 1), 0);
    }

    private void goal() {
        check.promise(10, "A CART has another GOAL: what it was.");
        CartPaths paths = Check.of(SCENE);
        check.same("another", paths.goal(0, 1, 1), 2);
        check.same("it is told", paths.cart(0, 1), 7);
        check.same("the same again", paths.goal(0, 1, 1), 7);
        check.same("another one's place", paths.goal(0, 2, 1), 7);
        check.same("its own place", paths.goal(0, 0, 0), 8);
        check.same("what another one had", paths.goal(1, 2, 0), 6);
        paths.tell(1, 0, 2);
        check.same("a cell that is left one way alone", paths.goal(0, 1, 0), 0);
        check.promise(10, "IllegalStateException: the CELL is a WALL, or another one's GOAL.");
        paths.tell(1, 1, 1);
        check.noState("a wall", () -> paths.goal(0, 1, 1));
        check.noState("the other one's goal", () -> paths.goal(0, 2, 0));
        check.noState("the other one's goal, too", () -> paths.goal(1, 1, 0));
        check.same("goals stay", paths.cart(0, 1) * 100 + paths.cart(1, 1), 102);
    }

    private static int changed(CartPaths paths, int cart, int other) {
        paths.change(cart, other);
        return 0;
    }

    private void change() {
        check.promise(11, "Two CARTS change GOALS.");
        CartPaths paths = Check.of(SCENE);
        paths.change(0, 1);
        check.same("a's", paths.cart(0, 1), 6);
        check.same("b's", paths.cart(1, 1), 2);
        check.same("a's place", paths.cart(0, 0), 0);
        paths.change(1, 0);
        check.same("a's again", paths.cart(0, 1), 2);
        check.promise(11, "IllegalArgumentException: both are one.");
        check.noNumber("a and a", () -> changed(paths, 0, 0));
        check.noNumber("b and b", () -> changed(paths, 1, 1));
        check.same("two acts", paths.count(5), 2);
    }

    private void kept() {
        check.terms("ACTS (the latest 16 are kept):");
        for (int acts = 15; acts <= 18; acts++) {
            CartPaths paths = Check.of(SCENE);
            for (int k = 0; k < acts; k++) {
                paths.tell(1, 1, 2 + k % 3);
            }
            int kept = Math.min(acts, KEPT);
            check.same("kept of " + acts, paths.count(5), kept);
            for (int left = kept - 1; left >= 0; left--) {
                check.same("undo", paths.undo(), left);
            }
            check.same("no more", paths.undo(), -1);
            int first = acts - KEPT;
            check.same("as ahead of those", paths.cell(1, 1), first <= 0 ? 0 : 2 + (first - 1) % 3);
        }
        keptOfAllSorts();
        check.terms("a CELL is told anew, a CART's GOAL is told, two CARTS change GOALS.");
        CartPaths paths = Check.of(SCENE);
        paths.tell(1, 1, 1);
        check.same("a cell", paths.count(5), 1);
        paths.goal(0, 1, 0);
        check.same("a goal", paths.count(5), 2);
        paths.change(0, 1);
        check.same("two goals", paths.count(5), 3);
        paths.without(10, 2, 0);
        paths.again(10, 1);
        check.same("what would be is no act", paths.count(5), 3);
    }

    private static int allCells(CartPaths paths) {
        int all = 0;
        for (int cell = 0; cell < 6; cell++) {
            all = 6 * all + paths.cell(cell % 3, cell / 3);
        }
        return all;
    }

    private void keptOfAllSorts() {
        CartPaths paths = Check.of(SCENE);
        int acts = 21;
        int[] cells = new int[acts];
        int[] goals = new int[acts];
        for (int k = 0; k < acts; k++) {
            cells[k] = allCells(paths);
            goals[k] = 100 * paths.cart(0, 1) + paths.cart(1, 1);
            switch (k % 4) {
                case 0:
                    paths.tell(k % 3, k / 3 % 2, 2 + k % 4);
                    break;
                case 1:
                    paths.goal(k / 4 % 2, 1, k / 8 % 2);
                    break;
                case 2:
                    paths.change(0, 1);
                    break;
                default:
                    paths.tell(k % 3, k / 4 % 2, 5 - k % 3);
                    break;
            }
        }
        for (int k = acts - 1; k >= acts - KEPT; k--) {
            check.same("undo act " + k, paths.undo(), k - (acts - KEPT));
            check.same("cells as ahead of " + k, allCells(paths), cells[k]);
            check.same("goals as ahead of " + k, 100 * paths.cart(0, 1) + paths.cart(1, 1), goals[k]);
        }
        check.same("no more of all sorts", paths.undo(), -1);
    }

    private void undone() {
        check.terms("UNDONE: CELLS and GOALS are as ahead of it.");
        CartPaths paths = Check.of(SCENE);
        paths.tell(1, 1, 1);
        paths.tell(1, 0, 4);
        paths.goal(1, 1, 0);
        paths.change(0, 1);
        check.promise(12, "The latest ACT is UNDONE: how many can be;");
        check.same("the change", paths.undo(), 3);
        check.same("goals", paths.cart(0, 1) * 100 + paths.cart(1, 1), 201);
        check.same("the goal", paths.undo(), 2);
        check.same("goal", paths.cart(1, 1), 6);
        check.same("the second cell", paths.undo(), 1);
        check.same("cells", paths.cell(1, 0) * 10 + paths.cell(1, 1), 1);
        check.same("an act between", paths.tell(1, 0, 2), 0);
        check.same("that act", paths.undo(), 1);
        check.same("the first cell", paths.undo(), 0);
        check.same("cell", paths.cell(1, 1), 0);
        check.same("plan as told", paths.plan(10, 0), 4);
        check.promise(12, "NONE: there was none.");
        check.same("none", paths.undo(), -1);
        check.same("none again", paths.undo(), -1);
        check.same("none ahead of any text", new CartPaths().undo(), -1);
    }

    /** However many acts come ahead of the first question, the answers are those of the scene as it is then. */
    private void firstAskedAfterManyActs() {
        check.promise(9, "A CELL has another SORT: what it had.");
        for (int acts = 0; acts <= 64; acts++) {
            askedAfter(acts, true);
            askedAfter(acts, false);
        }
    }

    /** Acts that make cell 7 a wall and free by turns, so that it is, or is not, a wall at last. */
    private void askedAfter(int acts, boolean wallAtLast) {
        CartPaths paths = Check.of(SCENE);
        for (int left = acts; left > 0; left--) {
            paths.tell(1, 1, left % 2 == 1 == wallAtLast ? 1 : 0);
        }
        // b goes round the wall, where a comes towards it: no plan, no order
        boolean walled = acts > 0 && wallAtLast;
        check.same("alone after " + acts, paths.count(7), walled ? 6 : 4);
        check.same("plan after " + acts, paths.plan(10, 0), walled ? -2 : 4);
        check.same("best order after " + acts, paths.bestOrder(true), walled ? -1 : 4);
        check.same("order after " + acts, paths.byTurns(0), walled ? -1 : 4);
    }
}
