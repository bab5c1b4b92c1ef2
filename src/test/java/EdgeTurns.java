import java.util.List;

/** Carts by turns, what is written and counted, sentence by sentence: promises 38 to 44. */
final class EdgeTurns {
    /** b stands in a's way down to 6: a first, and b must go round; b first, and a goes by 0. */
    private static final String AROUND = "row ..;row ..;cart a at 1 0 to 0 1;cart b at 1 1 to 1 1;";
    /** a can pass ahead of b alone. */
    private static final String HELD = "row ...;row #.#;cart a at 0 0 to 2 0;cart b at 1 1 to 1 0;";
    private static final String FIVE = "row .....;cart a at 0 0 to 0 0;cart b at 1 0 to 1 0;cart c at 2 0 to 2 0;"
            + "cart d at 3 0 to 3 0;cart e at 4 0 to 4 0;";
    private static final int[] WRONG = {Integer.MIN_VALUE, -2, -1, Integer.MAX_VALUE};

    private final Check check;

    EdgeTurns(Check check) {
        this.check = check;
    }

    void look() {
        forbidden();
        orders();
        bestOrder();
        byTurns();
        turned();
        ordered();
        written();
        octets();
        count();
        countAlone();
    }

    private void turned(CartPaths paths, int order, int cart, int... cells) {
        for (int time = 0; time <= 40; time++) {
            check.same("cart " + cart + " in order " + order + " at " + time, paths.turned(order, cart, time),
                    cells[Math.min(time, cells.length - 1)]);
        }
    }

    private void forbidden() {
        check.terms("BY TURNS: CARTS in an ORDER, one behind another: BEST WAY of each, where the CELL of each CART ahead "
                + "at each TIME is FORBIDDEN,");
        CartPaths around = Check.of(AROUND);
        turned(around, 0, 0, 1, 7, 6);
        turned(around, 0, 1, 7, 6, 0, 1, 7);
        turned(around, 1, 0, 1, 0, 6);
        turned(around, 1, 1, 7);
        check.terms("and the MOVES by which it would change places with one;");
        CartPaths places = Check.of("row ..;row ..;cart a at 0 0 to 1 0;cart b at 1 0 to 0 0;");
        turned(places, 0, 0, 0, 1);
        turned(places, 0, 1, 1, 7, 6, 0);
        turned(places, 1, 1, 1, 0);
        turned(places, 1, 0, 0, 6, 7, 1);
        // to come into a cell that one ahead leaves is not forbidden
        turned(Check.of("row ...;cart a at 0 0 to 1 0;cart b at 1 0 to 2 0;"), 1, 0, 0, 1);
        check.terms("it has none: that ORDER fails.");
        CartPaths held = Check.of(HELD);
        check.same("a first", held.byTurns(0), 4);
        check.same("b first", held.byTurns(1), -1);
        check.same("no way alone", Check.of("row .#.;cart a at 0 0 to 2 0;cart b at 2 0 to 0 0;").byTurns(0), -1);
        lastTime();
    }

    /** a goes round once more, as b comes through its goal, and ends at the last time. */
    private void lastTime() {
        String text = "row #vvv>.;row #..>>#;row >^>>>v;row .<<<<v;row ^>>>^v;row <.<<<<;"
                + "cart a at 2 2 to 3 3;cart b at 0 2 to 0 3;";
        CartPaths paths = Check.of(text);
        check.same("sum", paths.byTurns(1), 40 + 23);
        check.same("a on its goal", paths.turned(1, 0, 16), 21);
        check.same("b there", paths.turned(1, 1, 20), 21);
        check.same("a at 39", paths.turned(1, 0, 39), 22);
        check.same("a at 40", paths.turned(1, 0, 40), 21);
        check.same("there is no time for b to do so", paths.byTurns(0), -1);
        Oracle oracle = new Oracle();
        oracle.parse(text);
        check.same("sum of the second reading", oracle.sum(oracle.byTurns(List.of(1, 0))), 63);
        check.same("it fails by the second reading", oracle.byTurns(List.of(0, 1)) == null ? 1 : 0, 1);
        goalThatIsFreeAtTheLastTime();
    }

    /** d is on c's goal at 39, and both end at 40. */
    private void goalThatIsFreeAtTheLastTime() {
        String text = "row v.<#><;row v<^<v.;row >v>^<^;row ^>v>v.;row ^^.^v^;row ##^^..;cart a at 2 3 to 1 3;"
                + "cart b at 3 5 to 2 3;cart c at 2 1 to 1 0;cart d at 5 2 to 1 1;";
        CartPaths paths = Check.of(text);
        check.same("b, a, d, c", paths.byTurns(7), 126);
        check.same("d on c's goal at 39", paths.turned(7, 3, 39), 1);
        check.same("d on its own at 40", paths.turned(7, 3, 40), 7);
        check.same("c ahead of its goal at 39", paths.turned(7, 2, 39), 2);
        check.same("c on it at 40", paths.turned(7, 2, 40), 1);
        Oracle oracle = new Oracle();
        oracle.parse(text);
        check.same("sum of the second reading", oracle.sum(oracle.byTurns(List.of(1, 0, 3, 2))), 126);
    }

    private void orders() {
        check.terms("ORDERS are numbered as rows of CARTS' numbers, the least first (0 on: 0, 1, 2, ..).");
        CartPaths five = Check.of(FIVE);
        int before = -1;
        for (int order = 0; order < 120; order++) {
            int row = 0;
            int seen = 0;
            for (int k = 0; k < 5; k++) {
                row = 10 * row + five.ordered(order, k);
                seen |= 1 << five.ordered(order, k);
            }
            check.same("order " + order + " has all carts", seen, 31);
            check.same("order " + order + " is more than the one ahead", row > before ? 1 : 0, 1);
            before = row;
        }
        check.same("the last one", before, 43210);
    }

    private void bestOrder() {
        check.terms("BEST ORDER: that of the least SUM, of several the first.");
        CartPaths three = Check.of("row ..;row ..;cart a at 0 0 to 1 1;cart b at 1 0 to 0 1;cart c at 1 1 to 1 0;");
        int[] sums = {7, 7, 7, 7, 5, 5};
        for (int order = 0; order < 6; order++) {
            check.same("order " + order, three.byTurns(order), sums[order]);
        }
        check.promise(40, "BEST ORDER (sum false), or its SUM;");
        check.same("of the last two the first", three.bestOrder(false), 4);
        check.same("its sum", three.bestOrder(true), 5);
        check.same("of both the first", Check.of(Scenes.CROSSING).bestOrder(false), 0);
        check.same("the second alone", Check.of("row ...;row #.#;cart a at 1 1 to 1 0;cart b at 0 0 to 2 0;")
                .bestOrder(false), 1);
        check.same("the first alone", Check.of(HELD).bestOrder(false), 0);
        check.same("no carts", Check.of("row .;").bestOrder(false), 0);
        check.same("no carts' sum", Check.of("row .;").bestOrder(true), 0);
        check.promise(40, "NONE: all fail.");
        check.same("none", Check.of(Scenes.CUT).bestOrder(false), -1);
        check.same("no sum", Check.of(Scenes.CUT).bestOrder(true), -1);
        CartPaths paths = Check.of(Scenes.CUT);
        paths.bestOrder(true);
        paths.goal(1, 1, 0);
        check.same("not any more", paths.bestOrder(true), -1);
        paths.change(0, 1);
        check.same("when goals are changed", paths.bestOrder(true), 1);
        paths.undo();
        check.same("and undone", paths.bestOrder(true), -1);
        check.same("no order, too", paths.bestOrder(false), -1);
    }

    private void byTurns() {
        check.promise(38, "SUM of an ORDER BY TURNS;");
        check.same("a first", Check.of(AROUND).byTurns(0), 6);
        check.same("b first", Check.of(AROUND).byTurns(1), 2);
        check.same("the last of five", Check.of(FIVE).byTurns(119), 0);
        check.same("no carts", Check.of("row .;").byTurns(0), 0);
        check.promise(38, "NONE: it fails.");
        CartPaths held = Check.of(HELD);
        check.same("b first", held.byTurns(1), -1);
        check.same("a first", held.byTurns(0), 4);
        check.same("b first again", held.byTurns(1), -1);
        held.goal(1, 1, 1);
        check.same("b first, but with another goal", held.byTurns(1), 2);
        held.undo();
        check.same("b first with the old one", held.byTurns(1), -1);
        check.promise(38, "NoSuchElementException: there is no such ORDER.");
        CartPaths five = Check.of(FIVE);
        CartPaths none = Check.of("row .;");
        check.noElement("120 of five", () -> five.byTurns(120));
        check.noElement("2 of two", () -> held.byTurns(2));
        check.noElement("1 of none", () -> none.byTurns(1));
        for (int order : WRONG) {
            check.noElement("order " + order, () -> held.byTurns(order));
        }
    }

    private void turned() {
        check.promise(39, "The CELL of a CART at a TIME BY TURNS in an ORDER.");
        turned(Check.of(Scenes.CROSSING), 0, 0, 6, 7, 8);
        turned(Check.of(Scenes.CROSSING), 0, 1, 1, 1, 7, 13);
        turned(Check.of(Scenes.CROSSING), 1, 0, 6, 6, 7, 8);
        turned(Check.of(Scenes.CROSSING), 1, 1, 1, 7, 13);
        CartPaths held = Check.of(HELD);
        check.promise(39, "NoSuchElementException: there is no such ORDER;");
        check.noElement("order 2", () -> held.turned(2, 0, 0));
        for (int order : WRONG) {
            check.noElement("order " + order, () -> held.turned(order, 0, 0));
        }
        check.promise(39, "IllegalArgumentException: the TIME is none;");
        for (int time : new int[] {-1, 41, Integer.MIN_VALUE, Integer.MAX_VALUE}) {
            check.noNumber("time " + time, () -> held.turned(0, 0, time));
        }
        check.promise(39, "IllegalStateException: the ORDER fails.");
        check.noState("a in it", () -> held.turned(1, 0, 0));
        check.noState("b in it, which has a way", () -> held.turned(1, 1, 0));
        check.same("the other order does not", held.turned(0, 1, 40), 1);
    }

    private void ordered() {
        check.promise(41, "The k-th CART of an ORDER.");
        CartPaths three = Check.of("row ...;cart a at 0 0 to 0 0;cart b at 1 0 to 1 0;cart c at 2 0 to 2 0;");
        int[][] rows = {{0, 1, 2}, {0, 2, 1}, {1, 0, 2}, {1, 2, 0}, {2, 0, 1}, {2, 1, 0}};
        for (int order = 0; order < 6; order++) {
            for (int k = 0; k < 3; k++) {
                check.same("order " + order + " " + k, three.ordered(order, k), rows[order][k]);
            }
        }
        // an order that fails has its carts, too
        check.same("of one that fails", Check.of(HELD).ordered(1, 0), 1);
        check.promise(41, "NoSuchElementException: there is none such, no such ORDER.");
        check.noElement("no fourth", () -> three.ordered(0, 3));
        check.noElement("order 6", () -> three.ordered(6, 0));
        for (int wrong : WRONG) {
            check.noElement("k " + wrong, () -> three.ordered(0, wrong));
            check.noElement("order " + wrong, () -> three.ordered(wrong, 0));
        }
        check.noElement("no carts", () -> Check.of("row .;").ordered(0, 0));
    }

    private void octets(CartPaths paths, String due) {
        check.same("bytes", paths.count(6), due.length());
        for (int k = 0; k < due.length(); k++) {
            check.same("byte " + k, paths.octet(k), due.charAt(k));
        }
        for (int k : new int[] {due.length(), Integer.MAX_VALUE, -1, Integer.MIN_VALUE}) {
            check.same("no byte " + k, paths.octet(k), -1);
        }
    }

    private void written() {
        check.terms("WRITTEN: the grid at a TIME of a PLAN, row by row, with a byte 10 behind each: "
                + "CARTS (0 to 4, the least of several) where they are, else the CELL's sign.");
        CartPaths five = Check.of(FIVE);
        five.write(10, 0);
        octets(five, "01234\n");
        CartPaths signs = Check.of("row .#^;row >v<;cart a at 0 1 to 1 1;");
        signs.write(10, 0);
        octets(signs, ".#^\n0v<\n");
        signs.write(10, 1);
        octets(signs, ".#^\n>0<\n");
        check.promise(42, "WRITTEN: how many bytes.");
        CartPaths paths = Check.of(Scenes.CROSSING);
        check.same("at 0", paths.write(10, 0), 12);
        octets(paths, "#1#\n0..\n#.#\n");
        check.same("at 40", paths.write(10, 40), 12);
        octets(paths, "#.#\n..0\n#1#\n");
        check.same("no cells", new CartPaths().write(10, 0), 0);
        check.same("one cell", Check.of("row .;").write(10, 0), 2);
        check.same("most cells", Check.of("row ......;".repeat(6)).write(10, 0), 42);
        check.same("one column", Check.of("row .;row .;row .;").write(10, 0), 6);
    }

    private void octets() {
        check.promise(43, "Byte k of what was WRITTEN latest;");
        CartPaths paths = Check.of(Scenes.CROSSING);
        paths.write(10, 2);
        octets(paths, "#.#\n.0.\n#1#\n");
        paths.tell(0, 0, 4);
        octets(paths, "#.#\n.0.\n#1#\n");
        check.noNumber("a write that is refused", () -> paths.write(10, 41));
        octets(paths, "#.#\n.0.\n#1#\n");
        Check.feed(paths, "row <;");
        paths.read();
        octets(paths, "#.#\n.0.\n#1#\n");
        paths.write(10, 0);
        octets(paths, "<\n");
        check.promise(43, "NONE without.");
        octets(new CartPaths(), "");
        octets(Check.of(Scenes.CROSSING), "");
    }

    private void count() {
        check.promise(44, "0 columns, 1 ROWS, 2 CARTS, 3 free CELLS (all but WALLS), 4 ORDERS, "
                + "5 ACTS that can be undone, 6 bytes WRITTEN,");
        CartPaths paths = Check.of("row .#^>v<;row ######;cart a at 0 0 to 0 0;cart b at 5 0 to 5 0;");
        paths.tell(1, 0, 1);
        paths.tell(1, 0, 1);
        paths.write(10, 0);
        int[] due = {6, 2, 2, 5, 2, 2, 14};
        for (int what = 0; what < due.length; what++) {
            check.same("what " + what, paths.count(what), due[what]);
        }
        paths.undo();
        check.same("one act is left", paths.count(5), 1);
        int[] orders = {1, 1, 2, 6, 24, 120};
        for (int carts = 0; carts <= 5; carts++) {
            CartPaths some = Check.of(FIVE.substring(0, 10 + 21 * carts));
            check.same("orders of " + carts, some.count(4), orders[carts]);
        }
        check.promise(44, "NONE for another what.");
        for (int what : new int[] {8, 9, Integer.MAX_VALUE, -1, Integer.MIN_VALUE}) {
            check.same("what " + what, paths.count(what), -1);
        }
    }

    private void countAlone() {
        check.promise(44, "7 SUM of all CARTS ALONE (NONE: one has no WAY).");
        check.same("4, though they clash", Check.of(Scenes.CROSSING).count(7), 4);
        check.same("no plan, but a sum", Check.of(Scenes.CUT).count(7), 4);
        check.same("no carts", Check.of("row .;").count(7), 0);
        check.same("all on their goals", Check.of(FIVE).count(7), 0);
        check.same("one has no way", Check.of("row ..#.;cart a at 0 0 to 1 0;cart b at 1 0 to 3 0;").count(7), -1);
    }
}
