/** Times, ways and clashes, sentence by sentence: promises 13 to 17. */
final class EdgeWays {
    private static final String NO_WAY = "row .#.;cart a at 0 0 to 2 0;cart b at 2 0 to 0 0;";

    private final Check check;

    EdgeWays(Check check) {
        this.check = check;
    }

    void look() {
        times();
        moves();
        ends();
        forbidden();
        best();
        clashes();
        firstClash();
        cost();
        alone();
        clash();
        reach();
        far();
    }

    private void way(CartPaths paths, int cart, int... cells) {
        for (int time = 0; time <= 40; time++) {
            check.same("cart " + cart + " at " + time, paths.alone(cart, time),
                    cells[Math.min(time, cells.length - 1)]);
        }
    }

    private void planned(CartPaths paths, int cart, int... cells) {
        for (int time = 0; time <= 40; time++) {
            check.same("planned " + cart + " at " + time, paths.at(10, cart, time),
                    cells[Math.min(time, cells.length - 1)]);
        }
    }

    private void times() {
        check.terms("TIMES are 0 to 40.");
        CartPaths paths = Check.of(Scenes.CROSSING);
        int[] first = {6, 6, 1, 1, 0, 0, 5, 6, 12};
        int[] last = {8, 8, -1, 0, 20, 3, 0, 8, 12};
        for (int call = 0; call < first.length; call++) {
            check.same("call " + call + " at 0", ask(paths, call, 0), first[call]);
            check.same("call " + call + " at 40", ask(paths, call, 40), last[call]);
            for (int time : new int[] {-1, 41, Integer.MIN_VALUE, Integer.MAX_VALUE}) {
                int told = call;
                check.noNumber("call " + call + " at " + time, () -> ask(paths, told, time));
            }
        }
    }

    /** All calls that take a time, but for move. */
    private static int ask(CartPaths paths, int call, int time) {
        switch (call) {
            case 0: return paths.alone(0, time);
            case 1: return paths.at(10, 0, time);
            case 2: return paths.who(10, 1, 0, time);
            case 3: return paths.late(10, 1, 1, time, 1);
            case 4: return paths.slack(10, 1, time);
            case 5: return paths.ended(10, time);
            case 6: return paths.again(10, time);
            case 7: return paths.turned(0, 0, time);
            default: return paths.write(10, time);
        }
    }

    private void moves() {
        check.terms("A WAY of a CART is a CELL for each TIME: its PLACE at 0, then from one to the next a MOVE: "
                + "0 up, 1 right, 2 down, 3 left, to a free CELL, as the CELL that it leaves lets it, or 4: it stays.");
        CartPaths round = Check.of("row ###;row #.#;row ###;cart a at 1 1 to 1 1;");
        int[][] next = {{1, 0}, {2, 1}, {1, 2}, {0, 1}};
        for (int move = 0; move < 4; move++) {
            round.tell(next[move][0], next[move][1], 0);
            round.goal(0, next[move][0], next[move][1]);
            check.same("move " + move, round.move(10, 0, 0), move);
            check.same("then it stays", round.move(10, 0, 1), 4);
            check.same("its place", round.alone(0, 0), 7);
            round.tell(1, 1, 2 + move);
            check.same("as the cell lets it", round.cost(0), 1);
            round.tell(1, 1, 2 + (move + 1) % 4);
            check.same("as the cell does not let it", round.cost(0), -1);
            round.tell(1, 1, 0);
            round.goal(0, 1, 1);
            round.tell(next[move][0], next[move][1], 1);
        }
        check.same("to a wall", Check.of("row .#.;cart a at 0 0 to 2 0;").cost(0), -1);
        check.same("out of the grid and in again", Check.of("row .#;row #.;cart a at 0 0 to 1 1;").cost(0), -1);
        check.same("from a row's end to the next one", Check.of("row #####.;row .#####;cart a at 5 0 to 0 1;").cost(0), -1);
        check.same("back from it", Check.of("row #####.;row .#####;cart a at 0 1 to 5 0;").cost(0), -1);
        way(Check.of("row ^;cart a at 0 0 to 0 0;"), 0, 0);
        check.same("out of the grid alone", Check.of("row .^.;cart a at 1 0 to 2 0;").cost(0), -1);
    }

    private void ends() {
        check.terms("It ENDS at the first TIME from which on it is on its GOAL; that is its COST;");
        CartPaths bay = Check.of(Scenes.BAY);
        planned(bay, 1, 1, 7, 1);
        check.same("it is on its goal at 0", bay.way(10, 1, 4), 0);
        check.same("and ends at 2", bay.way(10, 1, 0), 2);
        check.same("alone it ends at 0", bay.cost(1), 0);
        check.terms("at TIME 40 it must be there.");
        // a comes later and later by what is forbidden, up to 40 and not beyond
        CartPaths last = Check.of(Scenes.NONE_WAITS);
        check.same("nodes", last.plan(10, 1), 39);
        check.same("the last one's cost", last.node(10, 38, 1), 40);
        check.same("no plan", last.plan(10, 0), -1);
        CartPaths longer = Check.of("row .>>>;cart a at 0 0 to 3 0;cart b at 2 0 to 2 0;");
        check.same("one node fewer", longer.plan(10, 1), 38);
        check.same("its cost, too", longer.node(10, 37, 1), 40);
    }

    private void forbidden() {
        check.terms("FORBIDDEN to a CART may be a CELL at a TIME, or a MOVE from a CELL to another one "
                + "by which it comes at a TIME.");
        // both ways of a to 8 are by 7 at time 2, where b is: it comes later
        CartPaths cell = Check.of("row ..#;row ...;row #.#;row #.#;cart a at 0 0 to 2 1;cart b at 1 3 to 1 0;");
        check.same("they meet", cell.clash(2), 0);
        check.same("a is later", cell.node(10, 1, 1), 7);
        // a comes to 7 at time 2 all the same, but from 6 and not from 1
        CartPaths move = Check.of("row ...;row ...;row ...;cart a at 0 0 to 1 1;cart b at 1 2 to 1 0;");
        check.same("they change places", move.clash(2), 1);
        check.same("a is no later", move.node(10, 1, 1), 4);
        check.same("plan", move.plan(10, 5), 1);
        planned(move, 0, 0, 6, 7);
        planned(move, 1, 13, 7, 1);
    }

    private void best() {
        check.terms("BEST WAY of a CART by what is FORBIDDEN: of least COST; "
                + "of several that whose MOVES, one behind another, are the least.");
        String grid = "row ...;row ...;row ...;";
        way(Check.of(grid + "cart a at 0 2 to 2 0;"), 0, 12, 6, 0, 1, 2);
        way(Check.of(grid + "cart a at 2 2 to 0 0;"), 0, 14, 8, 2, 1, 0);
        way(Check.of(grid + "cart a at 0 0 to 2 2;"), 0, 0, 1, 2, 8, 14);
        way(Check.of(grid + "cart a at 2 0 to 0 2;"), 0, 2, 8, 14, 13, 12);
        // up is the least first move, but costs more
        way(Check.of(grid + "cart a at 0 1 to 2 1;"), 0, 6, 7, 8);
        // to stay is the greatest move: it goes as far as it may ahead of waiting
        CartPaths waits = Check.of("row ##.#;row ##.#;row ....;row ##.#;cart a at 0 2 to 3 2;cart b at 2 0 to 2 3;");
        planned(waits, 0, 12, 13, 13, 14, 15);
        // b has two times to lose on its way back: aside to the right, and not staying
        CartPaths aside = Check.of(Scenes.LOOSE);
        planned(aside, 1, 1, 2, 8, 7);
        check.terms("ALONE: by nothing FORBIDDEN.");
        CartPaths through = Check.of("row ...;cart a at 0 0 to 2 0;cart b at 2 0 to 0 0;cart c at 1 0 to 1 0;");
        way(through, 0, 0, 1, 2);
        way(through, 1, 2, 1, 0);
        way(through, 2, 1);
    }

    private void clash(CartPaths paths, int... due) {
        for (int what = 0; what < due.length; what++) {
            check.same("clash " + what, paths.clash(what), due[what]);
        }
    }

    private void clashes() {
        check.terms("A CLASH of two CARTS at a TIME: both are in one CELL (sort 0),");
        clash(Check.of("row .....;cart a at 0 0 to 4 0;cart b at 4 0 to 0 0;"), 1, 2, 0, 0, 1);
        clash(Check.of("row ...;cart a at 2 0 to 2 0;cart b at 0 0 to 1 0;"), 0, -1, -1, -1, -1);
        // they go on together for two times: a clash at each
        clash(Check.of("row ....;row #.##;cart a at 1 1 to 3 0;cart b at 0 0 to 2 0;"), 2, 1, 0, 0, 1);
        // b has come to its goal, then a goes through
        clash(Check.of("row ......;cart a at 0 0 to 5 0;cart b at 5 0 to 4 0;"), 1, 4, 0, 0, 1);
        // a has ended where b goes through
        clash(Check.of("row ......;cart a at 4 0 to 3 0;cart b at 0 0 to 5 0;"), 1, 3, 0, 0, 1);
        check.terms("or each comes into the CELL in which the other one was at the TIME ahead (sort 1).");
        clash(Check.of("row ..;cart a at 0 0 to 1 0;cart b at 1 0 to 0 0;"), 1, 1, 1, 0, 1);
        clash(Check.of("row .;row .;row .;row .;cart a at 0 3 to 0 0;cart b at 0 0 to 0 3;"), 1, 2, 1, 0, 1);
        // one alone comes into the other one's: it follows
        clash(Check.of("row ...;cart a at 0 0 to 1 0;cart b at 1 0 to 2 0;"), 0, -1, -1, -1, -1);
        clash(Check.of("row ..;row ..;cart a at 0 0 to 1 0;cart b at 1 0 to 1 1;cart c at 1 1 to 0 1;"
                + "cart d at 0 1 to 0 0;"), 0, -1, -1, -1, -1);
    }

    private void firstClash() {
        check.terms("FIRST of all CLASHES: the least TIME,");
        // at time 1 the last two change places, at time 2 the first two meet
        clash(Check.of("row .....;row ..###;cart a at 0 0 to 4 0;cart b at 4 0 to 0 0;cart c at 0 1 to 1 1;"
                + "cart d at 1 1 to 0 1;"), 2, 1, 1, 2, 3);
        check.terms("then sort 0,");
        clash(Check.of("row ...;row ..#;cart a at 0 1 to 1 1;cart b at 1 1 to 0 1;cart c at 0 0 to 2 0;"
                + "cart d at 2 0 to 0 0;"), 2, 1, 0, 2, 3);
        check.terms("then the lesser CART least,");
        clash(Check.of("row ...;row ...;cart a at 0 0 to 2 0;cart b at 0 1 to 2 1;cart c at 2 1 to 0 1;"
                + "cart d at 2 0 to 0 0;"), 2, 1, 0, 0, 3);
        clash(Check.of("row ..;row ..;cart a at 0 0 to 1 0;cart b at 0 1 to 1 1;cart c at 1 1 to 0 1;"
                + "cart d at 1 0 to 0 0;"), 2, 1, 1, 0, 3);
        check.terms("then the other one least.");
        clash(Check.of("row #.#;row ...;row #.#;cart a at 0 1 to 2 1;cart b at 1 0 to 1 2;cart c at 2 1 to 0 1;"
                + "cart d at 1 2 to 1 0;"), 6, 1, 0, 0, 1);
    }

    private void cost() {
        check.promise(13, "COST of a CART ALONE;");
        check.same("on its goal", Check.of(Scenes.BAY).cost(1), 0);
        check.same("by nobody hindered", Check.of(Scenes.BAY).cost(0), 2);
        check.same("through all cells", Check.of(Scenes.SNAKE + "cart a at 0 0 to 0 5;").cost(0), 35);
        check.promise(13, "NONE: it has no WAY.");
        CartPaths none = Check.of(NO_WAY);
        check.same("a", none.cost(0), -1);
        check.same("b", none.cost(1), -1);
        none.tell(1, 0, 3);
        check.same("a by the one way", none.cost(0), 2);
        check.same("b not by it", none.cost(1), -1);
    }

    private void alone() {
        check.promise(14, "The CELL of a CART ALONE at a TIME;");
        way(Check.of(Scenes.CROSSING), 0, 6, 7, 8);
        way(Check.of(Scenes.CROSSING), 1, 1, 7, 13);
        check.promise(14, "NONE: it has no WAY.");
        way(Check.of(NO_WAY), 0, -1);
        check.promise(14, "IllegalArgumentException: the TIME is none.");
        for (String text : new String[] {Scenes.CROSSING, NO_WAY}) {
            CartPaths paths = Check.of(text);
            for (int time : new int[] {-1, 41, Integer.MIN_VALUE, Integer.MAX_VALUE}) {
                check.noNumber("time " + time, () -> paths.alone(0, time));
            }
        }
    }

    private void clash() {
        check.promise(15, "Of CLASHES of all CARTS ALONE what 0 how many, of the FIRST of them 1 its TIME, 2 sort, "
                + "3 the lesser CART, 4 the other one (NONE without).");
        clash(Check.of(Scenes.CROSSING), 1, 1, 0, 0, 1);
        clash(Check.of("row .;"), 0, -1, -1, -1, -1);
        clash(Check.of("row .;cart a at 0 0 to 0 0;"), 0, -1, -1, -1, -1);
        CartPaths paths = Check.of(Scenes.CROSSING);
        paths.goal(1, 1, 0);
        clash(paths, 0, -1, -1, -1, -1);
        paths.undo();
        clash(paths, 1, 1, 0, 0, 1);
        check.promise(15, "NoSuchElementException: another what;");
        for (int what : new int[] {-1, 5, Integer.MIN_VALUE, Integer.MAX_VALUE}) {
            check.noElement("what " + what, () -> paths.clash(what));
        }
        check.promise(15, "IllegalStateException: a CART has no WAY.");
        // one of them has a way
        CartPaths one = Check.of("row .#..;cart a at 2 0 to 3 0;cart b at 0 0 to 2 0;");
        for (int what = 0; what <= 4; what++) {
            int told = what;
            check.noState("what " + what, () -> one.clash(told));
        }
    }

    private void reach() {
        check.promise(16, "How many CELLS a CART can ever come to, its PLACE too.");
        check.same("shut in", Check.of("row .#;row #.;cart a at 0 0 to 1 1;").reach(0), 1);
        check.same("one cell", Check.of("row .;cart a at 0 0 to 0 0;").reach(0), 1);
        check.same("all", Check.of("row ......;row ......;row ......;row ......;row ......;row ......;"
                + "cart a at 5 5 to 0 0;").reach(0), 36);
        CartPaths paths = Check.of("row .>.;row ##.;cart a at 0 0 to 0 0;cart b at 2 1 to 2 1;cart c at 1 0 to 1 0;");
        check.same("another part", Check.of("row .#.;row .#.;cart a at 0 0 to 2 0;").reach(0), 2);
        CartPaths ends = Check.of("row >>>.;cart a at 0 0 to 3 0;cart b at 2 0 to 0 0;");
        check.same("from its place on", ends.reach(0), 4);
        check.same("not from its goal on", ends.reach(1), 2);
        check.same("by a cell that is left one way", paths.reach(0), 4);
        check.same("not against it, but into it", paths.reach(1), 3);
        check.same("others are no hindrance", paths.reach(2), 3);
        check.same("through all cells", Check.of(Scenes.SNAKE + "cart a at 0 0 to 0 0;").reach(0), 36);
    }

    private void far() {
        check.promise(17, "The fewest MOVES from a CELL to another one, nobody in the way;");
        CartPaths paths = Check.of("row ....;row .##.;row ....;cart a at 1 0 to 2 0;cart b at 1 2 to 2 2;");
        check.same("through carts", paths.far(0, 0, 3, 0), 3);
        check.same("round a wall", paths.far(0, 1, 3, 1), 5);
        // what a plan, an order, carts on their places forbid is nothing to it
        paths.plan(10, 0);
        check.same("behind a plan", paths.far(0, 0, 3, 0), 3);
        paths.bestOrder(true);
        check.same("behind orders", paths.far(0, 0, 3, 0), 3);
        paths.among(0);
        check.same("behind carts that stay", paths.far(0, 2, 3, 2), 3);
        check.same("to itself", paths.far(2, 2, 2, 2), 0);
        check.same("to the next", paths.far(2, 2, 3, 2), 1);
        check.same("through all cells", Check.of(Scenes.SNAKE).far(0, 0, 0, 5), 35);
        check.promise(17, "NONE: there is no way.");
        check.same("to a wall", paths.far(0, 0, 1, 1), -1);
        check.same("from a wall", paths.far(1, 1, 0, 1), -1);
        check.same("from a wall to itself", paths.far(1, 1, 1, 1), -1);
        check.same("against the one way", Check.of("row .>.;").far(2, 0, 0, 0), -1);
        check.same("to another part", Check.of("row .#.;").far(0, 0, 2, 0), -1);
    }
}
