import java.util.ArrayList;
import java.util.List;

/** Which exception each call throws, in their order, and that a call that throws changes nothing. */
final class EdgeCalls {
    /** A call on any object. */
    private interface Asked {
        int ask(CartPaths paths);
    }

    /** A call by a bound on any object. */
    private interface ByBound {
        int ask(CartPaths paths, int bound);
    }

    private static final int MIN = Integer.MIN_VALUE;
    private static final int MAX = Integer.MAX_VALUE;

    private final Check check;

    EdgeCalls(Check check) {
        this.check = check;
    }

    void look() {
        check.terms("IllegalArgumentException: a number is none; a text is wrong.");
        check.noNumber("a wrong text", new CartPaths()::read);
        byBound();
        noSuchCell();
        noSuchCart();
        noSuchElement();
        cannotBe();
        whichIsFirst();
        firstOfPlans();
        nothingChanges();
        tapeAndFault();
    }

    /** A bound is refused below 10 and above 30; without a plan there is no answer, be there no node or a cut. */
    private void bound(int promise, String number, String state, ByBound call) {
        check.promise(promise, number);
        CartPaths paths = Check.of(Scenes.CROSSING);
        for (int bound : new int[] {9, 31, 0, -1, MIN, MAX}) {
            check.noNumber("bound " + bound, () -> call.ask(paths, bound));
        }
        check.same("bounds 10 and 30 answer the same", call.ask(paths, 10), call.ask(paths, 30));
        if (state != null) {
            check.promise(promise, state);
            for (String text : new String[] {Scenes.NO_NODE, Scenes.NONE_WAITS, Scenes.CUT}) {
                CartPaths none = Check.of(text);
                check.noState(text, () -> call.ask(none, 10));
                check.noState(text, () -> call.ask(none, 30));
            }
        }
    }

    private void byBound() {
        String bound = "IllegalArgumentException: the BOUND is none;";
        String time = "IllegalArgumentException: BOUND, TIME is none;";
        String two = "IllegalArgumentException: the BOUND is none, both are one;";
        String state = "IllegalStateException: there is no PLAN, or it is CUT";
        bound(18, bound, null, (paths, told) -> paths.plan(told, 0));
        bound(19, bound, null, (paths, told) -> paths.node(told, 0, 1));
        bound(20, time, state, (paths, told) -> paths.at(told, 0, 0));
        bound(21, "Exceptions likewise.", "Exceptions likewise.", (paths, told) -> paths.move(told, 0, 0));
        bound(22, bound, state, (paths, told) -> paths.used(told, 1, 0, true));
        bound(22, bound, state, (paths, told) -> paths.used(told, 1, 0, false));
        bound(23, bound, state, (paths, told) -> paths.busiest(told));
        bound(24, bound, state, (paths, told) -> paths.waits(told));
        bound(25, "IllegalArgumentException: BOUND, TIME, n is none;", state,
                (paths, told) -> paths.late(told, 0, 1, 0, 1));
        bound(26, bound, state, (paths, told) -> paths.worse(told));
        bound(27, time, state, (paths, told) -> paths.who(told, 1, 0, 0));
        bound(28, two, state, (paths, told) -> paths.near(told, 0, 1, true));
        // the cell in the middle
        bound(29, bound, "or there is no PLAN now, or it is CUT.",
                (paths, told) -> paths.without(told, 1, paths.count(1) / 2));
        bound(30, two, state, (paths, told) -> paths.follows(told, 0, 1));
        bound(31, bound, state, (paths, told) -> paths.shared(told, -1));
        bound(32, time, state, (paths, told) -> paths.slack(told, 0, 0));
        bound(33, "IllegalArgumentException: BOUND, n is none;", state,
                (paths, told) -> paths.critical(told, 1, true));
        bound(34, time, state, (paths, told) -> paths.ended(told, 3));
        bound(35, bound, "IllegalStateException: there is no PLAN, or it is CUT;",
                (paths, told) -> paths.way(told, 0, 0));
        bound(36, time, state, (paths, told) -> paths.again(told, 0));
        bound(42, time, state, (paths, told) -> paths.write(told, 0));
    }

    private void noSuchCell() {
        check.terms("IndexOutOfBoundsException: there is no such CELL, CART.");
        CartPaths paths = Check.of("row ..;row ..;row ..;cart a at 0 0 to 0 0;");
        int[][] wrong = {{2, 0}, {0, 3}, {-1, 0}, {0, -1}, {3, 0}, {6, 0}, {0, 6}, {MIN, 0}, {0, MIN}, {MAX, 0},
            {0, MAX}, {MAX, MAX}, {-6, 1}, {-6, 2}};
        for (int[] cell : wrong) {
            int x = cell[0];
            int y = cell[1];
            check.noPlace("cell", () -> paths.cell(x, y));
            check.noPlace("tell", () -> paths.tell(x, y, 0));
            check.noPlace("goal", () -> paths.goal(0, x, y));
            check.noPlace("far from", () -> paths.far(x, y, 0, 0));
            check.noPlace("far to", () -> paths.far(0, 0, x, y));
            check.noPlace("used", () -> paths.used(10, x, y, false));
            check.noPlace("who", () -> paths.who(10, x, y, 0));
            check.noPlace("without", () -> paths.without(10, x, y));
        }
        check.same("the last cell", paths.cell(1, 2), 0);
    }

    private static int changed(CartPaths paths, int cart, int other) {
        paths.change(cart, other);
        return 0;
    }

    private void noSuchCart() {
        CartPaths paths = Check.of(Scenes.CROSSING);
        for (int cart : new int[] {-1, 2, 5, MIN, MAX}) {
            check.noPlace("cart", () -> paths.cart(cart, 0));
            check.noPlace("name", () -> paths.name(cart, 0));
            check.noPlace("goal", () -> paths.goal(cart, 1, 1));
            check.noPlace("change", () -> changed(paths, cart, 0));
            check.noPlace("change with", () -> changed(paths, 0, cart));
            check.noPlace("change both", () -> changed(paths, cart, cart));
            check.noPlace("cost", () -> paths.cost(cart));
            check.noPlace("alone", () -> paths.alone(cart, 0));
            check.noPlace("reach", () -> paths.reach(cart));
            check.noPlace("at", () -> paths.at(10, cart, 0));
            check.noPlace("move", () -> paths.move(10, cart, 0));
            check.noPlace("late", () -> paths.late(10, cart, 0, 0, 1));
            check.noPlace("late by", () -> paths.late(10, 0, cart, 0, 1));
            check.noPlace("near", () -> paths.near(10, cart, 0, true));
            check.noPlace("near to", () -> paths.near(10, 0, cart, true));
            check.noPlace("near both", () -> paths.near(10, cart, cart, true));
            check.noPlace("follows", () -> paths.follows(10, cart, 0));
            check.noPlace("follows it", () -> paths.follows(10, 0, cart));
            check.noPlace("slack", () -> paths.slack(10, cart, 0));
            check.noPlace("way", () -> paths.way(10, cart, 0));
            check.noPlace("among", () -> paths.among(cart));
            check.noPlace("turned", () -> paths.turned(0, cart, 0));
        }
        check.same("the last cart", paths.cart(1, 0), 1);
    }

    private void noSuchElement() {
        check.terms("NoSuchElementException: there is none such, another what.");
        CartPaths paths = Check.of(Scenes.CROSSING);
        for (int what : new int[] {-1, 6, MIN, MAX}) {
            check.noElement("cart", () -> paths.cart(0, what));
            check.noElement("clash", () -> paths.clash(what));
            check.noElement("plan", () -> paths.plan(10, what));
            check.noElement("node", () -> paths.node(10, 0, what));
            check.noElement("no such node", () -> paths.node(10, what, 0));
            check.noElement("way", () -> paths.way(10, 0, what));
            check.noElement("byTurns", () -> paths.byTurns(what));
            check.noElement("turned", () -> paths.turned(what, 0, 0));
            check.noElement("ordered", () -> paths.ordered(what, 0));
            check.noElement("ordered k", () -> paths.ordered(0, what));
        }
    }

    private void cannotBe() {
        check.terms("IllegalStateException: it cannot be.");
        CartPaths paths = Check.of(Scenes.CROSSING);
        check.noState("a wall on a place", () -> paths.tell(0, 1, 1));
        check.noState("a goal on a wall", () -> paths.goal(0, 0, 0));
        check.noState("another one's goal", () -> paths.goal(0, 1, 2));
        CartPaths none = Check.of(Scenes.NO_NODE);
        check.noState("no way", () -> none.clash(0));
        check.noState("no plan", () -> none.at(10, 0, 0));
        check.noState("the order fails", () -> none.turned(0, 0, 0));
    }

    /** Calls in which several things are wrong: the exception that the document tells first. */
    private void whichIsFirst() {
        check.terms("Of several exceptions the one told first is thrown;");
        CartPaths none = Check.of(Scenes.NO_NODE);
        check.noPlace("cart, then what", () -> none.cart(2, 9));
        check.noPlace("tell: cell, then sort", () -> none.tell(4, 0, 9));
        check.noNumber("tell: sort, then state", () -> none.tell(0, 0, 6));
        check.noState("tell: state", () -> none.tell(0, 0, 1));
        check.noPlace("goal: cart, then state", () -> none.goal(2, 2, 0));
        check.noPlace("goal: cell, then state", () -> none.goal(0, 4, 0));
        check.noState("goal: state", () -> none.goal(0, 2, 0));
        check.noPlace("change: cart, then both are one", () -> changed(none, 2, 2));
        check.noNumber("change: both are one", () -> changed(none, 1, 1));
        check.noPlace("alone: cart, then time", () -> none.alone(2, 41));
        check.noNumber("alone: time", () -> none.alone(1, 41));
        check.noElement("clash: what, then state", () -> none.clash(5));
        check.noState("clash: state", () -> none.clash(4));
        check.noPlace("turned: cart, then all", () -> none.turned(2, 2, 41));
        check.noElement("turned: order, then time and state", () -> none.turned(2, 1, 41));
        check.noNumber("turned: time, then state", () -> none.turned(1, 1, 41));
        check.noState("turned: state", () -> none.turned(1, 1, 40));
    }

    private void firstOfPlans() {
        CartPaths none = Check.of(Scenes.NO_NODE);
        check.noNumber("plan: bound, then what", () -> none.plan(31, 6));
        check.noElement("plan: what", () -> none.plan(30, 6));
        check.noNumber("node: bound, then node and what", () -> none.node(31, 0, 6));
        check.noElement("node: node", () -> none.node(30, 0, 0));
        for (Asked call : withTimes(2, 4, 9, 41, 21)) {
            check.noPlace("cell or cart, then all", () -> call.ask(none));
        }
        for (Asked call : withTimes(1, 1, 9, 0, 1)) {
            check.noNumber("bound, then state", () -> call.ask(none));
        }
        for (Asked call : withTimes(1, 1, 10, 41, 21).subList(0, 6)) {
            check.noNumber("time or n, then state", () -> call.ask(none));
        }
        for (Asked call : withTimes(1, 1, 10, 0, 1)) {
            check.noState("state, then what", () -> call.ask(none));
        }
        check.noNumber("near: both are one, then state", () -> none.near(10, 1, 1, true));
        check.noNumber("follows: both are one, then state", () -> none.follows(10, 1, 1));
        check.noNumber("critical: n, then state", () -> none.critical(10, 21, true));
        check.noNumber("ended: time, then state", () -> none.ended(10, 41));
        check.noNumber("again: time, then state", () -> none.again(10, 41));
        check.noNumber("write: time, then state", () -> none.write(10, 41));
        CartPaths paths = Check.of(Scenes.CROSSING);
        check.noElement("way: what at last", () -> paths.way(10, 1, 5));
        check.noNumber("without: bound, then a wall", () -> paths.without(9, 0, 0));
    }

    /** Calls by a cart or a column, a bound, a time and a length; those with a time stand first. */
    private static List<Asked> withTimes(int cart, int column, int bound, int time, int n) {
        List<Asked> calls = new ArrayList<>();
        calls.add(paths -> paths.at(bound, cart, time));
        calls.add(paths -> paths.move(bound, cart, time));
        calls.add(paths -> paths.who(bound, column, 0, time));
        calls.add(paths -> paths.slack(bound, cart, time));
        calls.add(paths -> paths.late(bound, cart, 0, time, 1));
        calls.add(paths -> paths.late(bound, 0, cart, 0, n));
        calls.add(paths -> paths.used(bound, column, 0, true));
        calls.add(paths -> paths.without(bound, column, 0));
        calls.add(paths -> paths.near(bound, cart, 0, true));
        calls.add(paths -> paths.follows(bound, cart, 0));
        calls.add(paths -> paths.way(bound, cart, 9));
        return calls;
    }

    /** Calls that are all refused, by an object that has a plan and an act to be undone. */
    private static List<Asked> refused() {
        List<Asked> calls = new ArrayList<>(withTimes(2, 3, 10, 0, 1));
        calls.addAll(withTimes(0, 1, 9, 0, 1));
        calls.addAll(withTimes(0, 1, 10, 41, 21).subList(0, 6));
        calls.add(paths -> paths.cell(3, 0));
        calls.add(paths -> paths.cart(0, 2));
        calls.add(paths -> paths.name(2, 0));
        calls.add(paths -> paths.tell(3, 0, 0));
        calls.add(paths -> paths.tell(1, 1, 6));
        calls.add(paths -> paths.tell(0, 1, 1));
        calls.add(paths -> paths.goal(0, 3, 0));
        calls.add(paths -> paths.goal(0, 2, 0));
        calls.add(paths -> paths.goal(0, 1, 2));
        calls.add(paths -> changed(paths, 0, 2));
        calls.add(paths -> changed(paths, 1, 1));
        calls.add(paths -> paths.cost(2));
        calls.add(paths -> paths.alone(0, 41));
        calls.add(paths -> paths.clash(5));
        calls.add(paths -> paths.reach(2));
        calls.add(paths -> paths.far(0, 0, 0, 3));
        calls.add(paths -> paths.plan(10, 6));
        calls.add(paths -> paths.node(10, 3, 0));
        calls.add(paths -> paths.without(10, 2, 0));
        calls.add(paths -> paths.critical(10, 21, true));
        calls.add(paths -> paths.ended(10, 41));
        calls.add(paths -> paths.way(10, 0, 5));
        calls.add(paths -> paths.again(10, 41));
        calls.add(paths -> paths.among(2));
        calls.add(paths -> paths.byTurns(2));
        calls.add(paths -> paths.turned(0, 0, 41));
        calls.add(paths -> paths.ordered(0, 2));
        calls.add(paths -> paths.write(10, 41));
        return calls;
    }

    private static CartPaths withHistory() {
        CartPaths paths = new CartPaths();
        Check.feed(paths, "row ..;?");
        try {
            paths.read();
        } catch (IllegalArgumentException e) {
            Check.feed(paths, Scenes.CROSSING);
        }
        paths.read();
        paths.write(10, 1);
        paths.tell(0, 0, 4);
        paths.goal(0, 0, 1);
        paths.change(0, 1);
        paths.undo();
        paths.undo();
        Check.feed(paths, "row v;");
        return paths;
    }

    /** All that can be seen of an object, down to the text on its tape. */
    private static List<Integer> seen(CartPaths paths) {
        List<Integer> all = new ArrayList<>();
        all.add(paths.fault());
        for (int k = 0; k < 9; k++) {
            all.add(paths.count(k));
            all.add(paths.cell(k % 3, k / 3));
            all.add(paths.plan(10 + k, k % 6));
        }
        for (int k = 0; k < 12; k++) {
            all.add(paths.octet(k));
        }
        for (int cart = 0; cart < 2; cart++) {
            all.add(paths.cart(cart, 0));
            all.add(paths.cart(cart, 1));
            all.add(paths.name(cart, 0));
            for (int time = 0; time <= 40; time++) {
                all.add(paths.alone(cart, time));
                all.add(paths.at(10, cart, time));
                all.add(paths.turned(1, cart, time));
            }
        }
        all.add(paths.undo());
        all.add(paths.cell(0, 0));
        all.add(paths.undo());
        all.add(paths.end(7) ? 1 : 0);
        all.add(paths.end(6) ? 1 : 0);
        all.add(paths.read());
        all.add(paths.cell(0, 0));
        return all;
    }

    private void nothingChanges() {
        check.terms("a call that throws changes nothing");
        List<Integer> due = seen(withHistory());
        int number = 0;
        for (Asked call : refused()) {
            CartPaths paths = withHistory();
            int told = number++;
            boolean thrown = false;
            try {
                call.ask(paths);
            } catch (RuntimeException e) {
                thrown = true;
            }
            check.same("call " + told + " throws", thrown ? 1 : 0, 1);
            List<Integer> got = seen(paths);
            for (int k = 0; k < due.size(); k++) {
                check.same("after call " + told + " answer " + k, got.get(k), due.get(k));
            }
        }
    }

    private void tapeAndFault() {
        check.terms("but the TAPE, where it is used up, and fault(), where a text is read.");
        CartPaths paths = withHistory();
        paths.end(0);
        Check.feed(paths, "row ..;cart a at 0 0 to 1 1;");
        check.noNumber("a wrong text", paths::read);
        check.same("its fault", paths.fault(), 26);
        check.same("the tape is used up", paths.end(1) ? 1 : 0, 0);
        Check.feed(paths, "row v;");
        List<Integer> got = seen(paths);
        List<Integer> due = seen(withHistory());
        for (int k = 1; k < due.size(); k++) {
            check.same("answer " + k, got.get(k), due.get(k));
        }
    }
}
