import java.util.List;

/** What is told of a plan, sentence by sentence, but for stops: promises 20 to 24, 26 to 31 and 34 to 37. */
final class EdgePlan {
    /** By its plan a is in 0, 1, 2, b in 1, 7, 1, 0: it leaves cell 1 twice. */
    private static final String TWICE = "row ...;row #.#;cart a at 0 0 to 2 0;cart b at 1 0 to 0 0;";

    /** By 20 a goes round and round till b has left its way, and ends at the last time, in 30, coming from 31. */
    private static final String LAST_TIME = "row >>>>>v;row v<<<<<;row >>>>>.;row v<<<<<;row >>>>>.;row ><<<<.;"
            + "cart a at 5 0 to 0 5;cart b at 5 3 to 5 5;";
    /** Five carts side by side, each in a row of its own. */
    private static final String FIVE = "row ......;row ......;row ......;row ......;row ......;cart a at 0 0 to 5 0;"
            + "cart b at 0 1 to 5 1;cart c at 0 2 to 5 2;cart d at 0 3 to 5 3;cart e at 0 4 to 5 4;";

    private final Check check;

    EdgePlan(Check check) {
        this.check = check;
    }

    void look() {
        at();
        move();
        used();
        busiest();
        waits();
        worse();
        who();
        near();
        without();
        withoutWrongCells();
        follows();
        shared();
        ended();
        way();
        again();
        among();
        lastTime();
        fiveCarts();
        fewerCartsThanBefore();
    }

    private static CartPaths noCarts() {
        return Check.of("row ..;");
    }

    private void at() {
        check.promise(20, "The CELL of a CART at a TIME by a PLAN.");
        CartPaths paths = Check.of(Scenes.LOOSE);
        int[] by10 = {6, 7, 1, 1};
        int[] by15 = {6, 6, 7, 1};
        for (int time = 0; time <= 40; time++) {
            check.same("by 10 at " + time, paths.at(10, 0, time), by10[Math.min(time, 3)]);
            check.same("by 15 at " + time, paths.at(15, 0, time), by15[Math.min(time, 3)]);
        }
        check.same("one that never moves", Check.of("row .;cart a at 0 0 to 0 0;").at(30, 0, 40), 0);
    }

    private void move() {
        check.promise(21, "The MOVE of a CART from a TIME (0 to 39) on by a PLAN.");
        CartPaths paths = Check.of(Scenes.CROSSING);
        int[] moves = {4, 1, 1, 4};
        for (int time = 0; time <= 39; time++) {
            check.same("from " + time, paths.move(10, 0, time), moves[Math.min(time, 3)]);
        }
        check.promise(21, "Exceptions likewise.");
        for (int time : new int[] {-1, 40, 41, Integer.MIN_VALUE, Integer.MAX_VALUE}) {
            check.noNumber("from " + time, () -> paths.move(10, 0, time));
        }
        int[] round = {1, 2, 3, 0};
        for (int cart = 0; cart < 4; cart++) {
            check.same("round", Check.of(Scenes.RING).move(10, cart, 0), round[cart]);
        }
    }

    private void used() {
        check.terms("USED is a CELL by a PLAN: how many CARTS are ever in it (NEXT: how many MOVES go out of it "
                + "to another CELL).");
        CartPaths twice = Check.of(TWICE);
        check.same("b is in it twice", twice.used(10, 1, 0, false), 2);
        check.same("and leaves it twice", twice.used(10, 1, 0, true), 3);
        check.same("the first place, where b comes", twice.used(10, 0, 0, false), 2);
        check.same("which a leaves", twice.used(10, 0, 0, true), 1);
        check.promise(22, "USED (next false), NEXT (true) of a CELL by a PLAN.");
        CartPaths paths = Check.of(Scenes.CROSSING);
        check.same("a's place, where it waits", paths.used(10, 0, 1, false), 1);
        check.same("it leaves it once", paths.used(10, 0, 1, true), 1);
        check.same("a goal", paths.used(10, 2, 1, false), 1);
        check.same("nobody leaves it", paths.used(10, 2, 1, true), 0);
        check.same("a wall", paths.used(10, 0, 0, false), 0);
        check.same("nobody leaves a wall", paths.used(10, 0, 0, true), 0);
        check.same("no carts", noCarts().used(10, 0, 0, false) + noCarts().used(10, 0, 0, true), 0);
    }

    private void busiest() {
        check.promise(23, "The CELL that is USED the most by a PLAN; of several the least number (NONE: no CARTS).");
        check.same("the crossing", Check.of(Scenes.CROSSING).busiest(10), 7);
        check.same("of two the least", Check.of(TWICE).busiest(10), 0);
        check.same("of all the least", Check.of("row ...;row ...;cart a at 2 1 to 1 1;").busiest(10), 7);
        check.same("one that stays", Check.of("row ...;row ...;cart a at 2 1 to 2 1;").busiest(10), 8);
        check.same("no carts", noCarts().busiest(10), -1);
    }

    private void waits() {
        check.promise(24, "How many times CARTS stay where they are (MOVE 4) by a PLAN ahead of ENDING, together.");
        check.same("once", Check.of(Scenes.CROSSING).waits(10), 1);
        check.same("never, though b ends late", Check.of(Scenes.BAY).waits(10), 0);
        check.same("by 10 never", Check.of(Scenes.LOOSE).waits(10), 0);
        check.same("by 15 once", Check.of(Scenes.LOOSE).waits(15), 1);
        check.same("one that has ended", Check.of("row ..;row ..;cart a at 0 0 to 0 0;cart b at 0 1 to 1 1;").waits(10), 0);
        check.same("two wait", Check.of("row #.#;row ...;row #.#;row #.#;row ...;row #.#;cart a at 0 1 to 2 1;"
                + "cart b at 1 0 to 1 2;cart c at 0 4 to 2 4;cart d at 1 3 to 1 5;").waits(10), 2);
        check.same("no carts", noCarts().waits(10), 0);
    }

    private void worse() {
        check.promise(26, "Bits of a float: the SUM of a PLAN parted by that of all CARTS ALONE (1.0 if that is 0).");
        check.same("5 by 4", Check.of(Scenes.CROSSING).worse(10), Float.floatToIntBits(1.25f));
        check.same("4 by 2", Check.of(Scenes.BAY).worse(10), Float.floatToIntBits(2.0f));
        check.same("5 by 3", Check.of(Scenes.LOOSE).worse(10), Float.floatToIntBits(5.0f / 3.0f));
        check.same("6 by 3", Check.of(Scenes.LOOSE).worse(15), Float.floatToIntBits(2.0f));
        check.same("5 by 3 once more", Check.of(TWICE).worse(10), Float.floatToIntBits(5.0f / 3.0f));
        check.same("equal", Check.of(Scenes.RING).worse(10), Float.floatToIntBits(1.0f));
        check.same("alone 0", Check.of("row .;cart a at 0 0 to 0 0;").worse(10), Float.floatToIntBits(1.0f));
        check.same("no carts", noCarts().worse(10), Float.floatToIntBits(1.0f));
        // the next float above
        check.same("4 by 3", Check.of("row #.#;row ...;cart a at 0 1 to 2 1;cart b at 1 0 to 1 1;").worse(10),
                Float.floatToIntBits(4.0f / 3.0f));
        check.same("8 by 7", Check.of("row ##.##;row ##.##;row .....;row ##.##;cart a at 0 2 to 4 2;cart b at 2 0 to 2 3;")
                .worse(10), Float.floatToIntBits(8.0f / 7.0f));
        check.same("7 by 3", Check.of("row #..;row ..^;cart a at 2 0 to 2 0;cart b at 2 1 to 1 1;").worse(10),
                Float.floatToIntBits(7.0f / 3.0f));
    }

    private void who() {
        check.promise(27, "Which CART is in a CELL at a TIME by a PLAN; NONE: none.");
        CartPaths paths = Check.of(Scenes.CROSSING);
        int[] due = {-1, 1, 0, -1};
        for (int time = 0; time <= 40; time++) {
            check.same("at " + time, paths.who(10, 1, 1, time), due[Math.min(time, 3)]);
        }
        check.same("a wall", paths.who(10, 0, 0, 0), -1);
        check.same("no carts", noCarts().who(10, 0, 0, 0), -1);
        check.same("by 15 a still waits", Check.of(Scenes.LOOSE).who(15, 0, 1, 1), 0);
        check.same("by 10 it does not", Check.of(Scenes.LOOSE).who(10, 0, 1, 1), -1);
    }

    private void near() {
        check.promise(28, "How near two CARTS come by a PLAN: the fewest columns and rows apart together (when false), "
                + "or the first TIME of that.");
        CartPaths paths = Check.of("row ......;row ......;row ......;cart a at 0 0 to 2 0;cart b at 5 2 to 5 2;");
        check.same("five and two, then three and two", paths.near(10, 0, 1, false), 5);
        check.same("at 2", paths.near(10, 0, 1, true), 2);
        check.same("the other way round", paths.near(10, 1, 0, false), 5);
        CartPaths still = Check.of(Scenes.STILL);
        check.same("always one apart", still.near(10, 0, 1, false), 1);
        check.same("first at 0", still.near(10, 0, 1, true), 0);
        // nearest at 1 and at 2: the first counts
        check.same("first of two", Check.of(Scenes.CROSSING).near(10, 1, 0, true), 1);
        check.same("rows", Check.of("row .;row .;row .;cart a at 0 0 to 0 0;cart b at 0 2 to 0 2;")
                .near(10, 0, 1, false), 2);
        check.promise(28, "IllegalArgumentException: the BOUND is none, both are one;");
        check.noNumber("a and a", () -> still.near(10, 0, 0, false));
        check.noNumber("b and b", () -> still.near(10, 1, 1, true));
    }

    private void without() {
        check.promise(29, "By how much the PLAN's SUM by a BOUND would be more, were a CELL a WALL;");
        CartPaths one = Check.of("row ...;row ...;cart a at 0 0 to 2 0;");
        check.same("round it", one.without(10, 1, 0), 2);
        check.same("not needed", one.without(10, 1, 1), 0);
        one.tell(1, 0, 3);
        check.same("a cell left one way", one.without(10, 1, 0), 2);
        // b goes aside to 8 then, and a waits for that
        check.same("one more", Check.of(Scenes.LOOSE).without(10, 2, 0), 1);
        CartPaths less = Check.of("row ..>..>;row ......;cart a at 5 1 to 0 0;cart b at 0 1 to 1 1;");
        check.same("less by a loose bound", less.without(15, 2, 0), -4);
        check.promise(29, "NONE: there would be no PLAN, or it would be CUT (nothing stays).");
        CartPaths paths = Check.of(Scenes.CROSSING);
        check.same("no way any more", paths.without(10, 1, 1), -1);
        check.same("cell stays", paths.cell(1, 1), 0);
        check.same("plan stays", paths.plan(10, 0), 5);
        check.same("no act", paths.undo(), -1);
        check.same("cut", Check.of(Scenes.BAY).without(10, 1, 1), -1);
        // a goes round b, which cannot come back if it leaves its goal; else no node waits in the end
        CartPaths round = Check.of("row .>>;row ...;cart a at 0 0 to 2 0;cart b at 1 0 to 1 0;");
        check.same("round b", round.plan(10, 0), 4);
        check.same("no plan", round.without(10, 1, 1), -1);
        round.tell(1, 1, 1);
        check.same("as it is then", round.plan(10, 0), -1);
        check.same("no carts", noCarts().without(10, 0, 0), 0);
    }

    private void withoutWrongCells() {
        check.promise(29, "IllegalStateException: it is a WALL, a PLACE, a GOAL,");
        CartPaths paths = Check.of(Scenes.CROSSING);
        check.noState("a wall", () -> paths.without(10, 0, 0));
        for (int cell : new int[] {6, 8, 1, 13}) {
            check.noState("a place or a goal", () -> paths.without(10, cell % 6, cell / 6));
        }
        check.promise(29, "or there is no PLAN now, or it is CUT.");
        String[] texts = {"row ..#.;cart a at 0 0 to 3 0;", "row .>>.;cart a at 0 0 to 2 0;cart b at 1 0 to 1 0;",
            "row ....;cart a at 0 0 to 2 0;cart b at 2 0 to 0 0;"};
        int[] free = {1, 3, 1};
        for (int k = 0; k < texts.length; k++) {
            CartPaths none = Check.of(texts[k]);
            int x = free[k];
            check.noState("no plan now", () -> none.without(10, x, 0));
        }
    }

    private void follows() {
        check.promise(30, "How many times a CART comes into the CELL that another one leaves by that MOVE of its own, "
                + "by a PLAN.");
        CartPaths bay = Check.of(Scenes.BAY);
        check.same("a comes as b leaves", bay.follows(10, 0, 1), 1);
        check.same("b comes back as a leaves", bay.follows(10, 1, 0), 1);
        CartPaths row = Check.of("row ......;cart a at 0 0 to 4 0;cart b at 1 0 to 5 0;");
        check.same("four times", row.follows(10, 0, 1), 4);
        check.same("the one ahead never", row.follows(10, 1, 0), 0);
        CartPaths later = Check.of("row ......;cart a at 0 0 to 3 0;cart b at 2 0 to 5 0;");
        check.same("a time later is none", later.follows(10, 0, 1), 0);
        CartPaths ring = Check.of(Scenes.RING);
        check.same("the next one", ring.follows(10, 0, 1), 1);
        check.same("the one across", ring.follows(10, 0, 2), 0);
        check.same("the one behind", ring.follows(10, 0, 3), 0);
        check.same("the last one the first", ring.follows(10, 3, 0), 1);
        check.same("still ones", Check.of(Scenes.STILL).follows(10, 0, 1), 0);
        check.promise(30, "IllegalArgumentException: the BOUND is none, both are one;");
        check.noNumber("a and a", () -> bay.follows(10, 0, 0));
        check.noNumber("b and b", () -> bay.follows(10, 1, 1));
    }

    private void shared() {
        check.promise(31, "CELLS that are USED by two CARTS or more by a PLAN: how many (k NONE), "
                + "or the number of the k-th (NONE behind).");
        CartPaths twice = Check.of(TWICE);
        int[] cells = {0, 1};
        check.same("how many", twice.shared(10, -1), 2);
        for (int k = 0; k < 2; k++) {
            check.same("the k-th", twice.shared(10, k), cells[k]);
        }
        for (int k : new int[] {2, 3, Integer.MAX_VALUE, -2, Integer.MIN_VALUE}) {
            check.same("none at " + k, twice.shared(10, k), -1);
        }
        CartPaths three = Check.of("row ......;cart a at 0 0 to 3 0;cart b at 1 0 to 4 0;cart c at 2 0 to 5 0;");
        check.same("by two or three", three.shared(10, -1), 4);
        check.same("the last one", three.shared(10, 3), 4);
        CartPaths none = Check.of(Scenes.STILL);
        check.same("none", none.shared(10, -1), 0);
        check.same("no first one", none.shared(10, 0), -1);
    }

    private void ended() {
        check.promise(34, "Which CARTS have ENDED by a TIME of a PLAN (bits).");
        int[] due = {0, 0, 2, 3};
        for (int time = 0; time <= 40; time++) {
            check.same("at " + time, Check.of(Scenes.CROSSING).ended(10, time), due[Math.min(time, 3)]);
        }
        CartPaths bay = Check.of(Scenes.BAY);
        check.same("on its goal, but not for ever", bay.ended(10, 0), 0);
        check.same("then for ever", bay.ended(10, 2), 3);
        check.same("all five", Check.of("row .....;cart a at 0 0 to 0 0;cart b at 1 0 to 1 0;"
                + "cart c at 2 0 to 2 0;cart d at 3 0 to 3 0;cart e at 4 0 to 4 0;").ended(10, 0), 31);
        check.same("no carts", noCarts().ended(10, 40), 0);
    }

    private void way() {
        check.promise(35, "Of a CART by a PLAN what 0 its COST, 1 by how much that is more than ALONE, "
                + "2 how many unlike CELLS its WAY has, 3 how many MOVES to another CELL, "
                + "4 the TIME at which it is on its GOAL first.");
        int[][] due = {{3, 1, 3, 2, 3}, {2, 0, 3, 2, 2}, {2, 0, 3, 2, 2}, {2, 2, 2, 2, 0}, {2, 0, 3, 2, 2},
            {3, 2, 3, 3, 3}};
        String[] texts = {Scenes.CROSSING, Scenes.BAY, TWICE};
        for (int k = 0; k < due.length; k++) {
            CartPaths paths = Check.of(texts[k / 2]);
            for (int what = 0; what < 5; what++) {
                check.same("cart " + k + " what " + what, paths.way(10, k % 2, what), due[k][what]);
            }
        }
        CartPaths still = Check.of("row .;cart a at 0 0 to 0 0;");
        int[] least = {0, 0, 1, 0, 0};
        for (int what = 0; what < 5; what++) {
            check.same("one that stays " + what, still.way(10, 0, what), least[what]);
        }
        check.promise(35, "NoSuchElementException: another what.");
        for (int what : new int[] {-1, 5, Integer.MIN_VALUE, Integer.MAX_VALUE}) {
            check.noElement("what " + what, () -> still.way(10, 0, what));
        }
    }

    private void again() {
        check.promise(36, "SUM of a PLAN by a BOUND, were PLACES those at a TIME of the PLAN now (TIMES anew from 0 on);");
        CartPaths paths = Check.of(Scenes.CROSSING);
        int[] due = {5, 3, 1, 0};
        for (int time = 0; time <= 40; time++) {
            check.same("at " + time, paths.again(10, time), due[Math.min(time, 3)]);
        }
        CartPaths loose = Check.of(Scenes.LOOSE);
        check.same("by 15", loose.again(15, 0), 6);
        check.same("by 10", loose.again(10, 0), 5);
        check.same("no carts", noCarts().again(10, 40), 0);
        check.promise(36, "NONE: there would be no PLAN, or it would be CUT (nothing stays).");
        String text = "row ##..;row ....;cart a at 3 0 to 2 0;cart b at 0 1 to 2 1;cart c at 1 1 to 0 1;";
        CartPaths cut = Check.of(text);
        int sum = cut.plan(16, 0);
        check.same("there is a plan now", sum > 0 ? 1 : 0, 1);
        check.same("cut at 1", cut.again(16, 1), -1);
        Oracle oracle = new Oracle();
        oracle.parse(text);
        List<int[]> ways = oracle.grow(16).ways();
        for (int cart = 0; cart < 3; cart++) {
            oracle.places.set(cart, ways.get(cart)[1]);
        }
        check.same("cut by the second reading", oracle.grow(16).cut ? 1 : 0, 1);
        check.same("the plan stays", cut.plan(16, 0), sum);
        check.same("places stay", cut.cart(0, 0), 3);
        check.same("no act", cut.undo(), -1);
    }

    private void among() {
        check.promise(37, "COST of a CART, if all others stay on their PLACES for ever;");
        CartPaths paths = Check.of("row ...;row ...;cart a at 0 0 to 2 0;cart b at 1 0 to 1 1;");
        check.same("round it", paths.among(0), 4);
        check.same("b is free to go", paths.among(1), 1);
        check.same("one alone", Check.of("row ...;cart a at 0 0 to 2 0;").among(0), 2);
        check.same("on its goal", Check.of(Scenes.STILL).among(0), 0);
        check.promise(37, "NONE: it has no WAY then.");
        check.same("shut in", Check.of("row ...;cart a at 0 0 to 2 0;cart b at 1 0 to 1 0;").among(0), -1);
        check.same("by the first one, too", Check.of("row ...;cart a at 1 0 to 1 0;cart b at 0 0 to 2 0;").among(1), -1);
        check.same("a goal that is a place", Check.of("row ..;cart a at 0 0 to 1 0;cart b at 1 0 to 0 0;").among(0), -1);
        check.same("no way anyhow", Check.of("row .#.;cart a at 0 0 to 2 0;").among(0), -1);
    }

    private void lastTime() {
        check.terms("at TIME 40 it must be there.");
        CartPaths paths = Check.of(LAST_TIME);
        int[] plan = {76, 22, 11, 40, 56, 21};
        for (int what = 0; what < plan.length; what++) {
            check.same("plan " + what, paths.plan(20, what), plan[what]);
        }
        check.same("the second reading at 40", secondReading(LAST_TIME, 20).get(0)[40], 30);
        check.same("the second reading at 39", secondReading(LAST_TIME, 20).get(0)[39], 31);
        check.same("at 39", paths.at(20, 0, 39), 31);
        check.same("at 40", paths.at(20, 0, 40), 30);
        check.same("the last move", paths.move(20, 0, 39), 3);
        check.same("used", paths.used(20, 0, 5, false), 1);
        check.same("next", paths.used(20, 1, 5, true), 1);
        check.same("who at 39", paths.who(20, 0, 5, 39), -1);
        check.same("who at 40", paths.who(20, 0, 5, 40), 0);
        check.same("ended at 39", paths.ended(20, 39), 2);
        check.same("ended at 40", paths.ended(20, 40), 3);
        int[] way = {40, 10, 31, 40, 40};
        for (int what = 0; what < way.length; what++) {
            check.same("way " + what, paths.way(20, 0, what), way[what]);
        }
        check.same("waits", paths.waits(20), 0);
        check.same("late beyond 40", paths.late(20, 0, 0, 39, 20), 20);
        check.same("no move is left", paths.late(20, 0, 0, 40, 20), 0);
        check.same("again from 39", paths.again(20, 39), 1);
        check.same("again from 40", paths.again(20, 40), 0);
        nearAtTheLastTime();
        followsAtTheLastTime();
    }

    private static List<int[]> secondReading(String text, int bound) {
        Oracle oracle = new Oracle();
        oracle.parse(text);
        return oracle.grow(bound).ways();
    }

    private void nearAtTheLastTime() {
        String text = "row v.>>>v;row #<>^.<;row .#^>>v;row >>^.<v;row >^<v>v;row ^>..<<;cart a at 0 5 to 2 4;"
                + "cart b at 0 4 to 2 3;cart c at 3 5 to 1 4;";
        CartPaths paths = Check.of(text);
        check.same("next to one another", paths.near(30, 0, 2, false), 1);
        check.same("at the last time first", paths.near(30, 0, 2, true), 40);
        List<int[]> ways = secondReading(text, 30);
        for (int time = 38; time <= 40; time++) {
            check.same("a by the second reading at " + time, paths.at(30, 0, time), ways.get(0)[time]);
            check.same("c by the second reading at " + time, paths.at(30, 2, time), ways.get(2)[time]);
        }
    }

    private void followsAtTheLastTime() {
        String text = "row <^^>>v;row >^v<<<;row <>>>>.;row v<<<<<;row >>.>>v;row >.#...;cart a at 3 2 to 4 4;"
                + "cart b at 0 3 to 5 4;cart c at 3 0 to 5 5;";
        CartPaths paths = Check.of(text);
        check.same("all end at 40", paths.plan(25, 0), 120);
        check.same("a follows b at 40 alone", paths.follows(25, 0, 1), 1);
        check.same("b leaves", paths.at(25, 1, 39), paths.at(25, 0, 40));
        List<int[]> ways = secondReading(text, 25);
        for (int cart = 0; cart < 3; cart++) {
            check.same("the second reading at 39", paths.at(25, cart, 39), ways.get(cart)[39]);
            check.same("the second reading at 40", paths.at(25, cart, 40), ways.get(cart)[40]);
        }
    }

    private void fiveCarts() {
        check.terms("CARTS, at most 5,");
        CartPaths paths = Check.of(FIVE);
        check.same("sum", paths.plan(10, 0), 25);
        check.same("waits", paths.waits(10), 0);
        check.same("worse", paths.worse(10), Float.floatToIntBits(1.0f));
        check.same("used", paths.used(10, 5, 4, false), 1);
        check.same("next", paths.used(10, 4, 4, true), 1);
        check.same("busiest", paths.busiest(10), 0);
        check.same("shared", paths.shared(10, -1), 0);
        check.same("who", paths.who(10, 5, 4, 40), 4);
        check.same("near", paths.near(10, 4, 0, false), 4);
        check.same("late", paths.late(10, 4, 4, 0, 3), 3);
        check.same("slack", paths.slack(10, 4, 0), 20);
        check.same("critical", paths.critical(10, 3, false), 0);
        check.same("critical by", paths.critical(10, 3, true), 3);
        check.same("ended", paths.ended(10, 5), 31);
        check.same("way", paths.way(10, 4, 3), 5);
        check.same("again", paths.again(10, 2), 15);
        check.same("among", paths.among(4), 5);
        check.same("by turns", paths.byTurns(119), 25);
        check.same("best order", paths.bestOrder(false), 0);
        check.same("clashes", paths.clash(0), 0);
        check.same("write", paths.write(10, 5), 35);
        check.same("the last cart", paths.octet(33), '4');
    }

    /** What was told of more carts is nothing to a text with fewer. */
    private void fewerCartsThanBefore() {
        CartPaths used = Check.of(FIVE);
        for (int bound : new int[] {10, 15}) {
            used.plan(bound, 0);
            used.again(bound, 2);
            used.late(bound, 4, 4, 0, 20);
        }
        used.bestOrder(true);
        used.count(7);
        for (String text : new String[] {Scenes.CROSSING, Scenes.BAY, Scenes.LOOSE,
            "row ......;row ......;cart a at 0 0 to 5 1;", "row ..;"}) {
            Check.feed(used, text);
            used.read();
            CartPaths fresh = Check.of(text);
            for (int bound : new int[] {10, 15}) {
                for (int what = 0; what < 6; what++) {
                    check.same(text + " plan", used.plan(bound, what), fresh.plan(bound, what));
                }
                check.same(text + " waits", used.waits(bound), fresh.waits(bound));
                check.same(text + " worse", used.worse(bound), fresh.worse(bound));
                check.same(text + " busiest", used.busiest(bound), fresh.busiest(bound));
                check.same(text + " shared", used.shared(bound, -1), fresh.shared(bound, -1));
                check.same(text + " critical", used.critical(bound, 20, true), fresh.critical(bound, 20, true));
                check.same(text + " ended", used.ended(bound, 40), fresh.ended(bound, 40));
                check.same(text + " again", used.again(bound, 1), fresh.again(bound, 1));
                for (int cell = 0; cell < 2; cell++) {
                    check.same(text + " used", used.used(bound, cell, 0, false), fresh.used(bound, cell, 0, false));
                    check.same(text + " next", used.used(bound, cell, 0, true), fresh.used(bound, cell, 0, true));
                    check.same(text + " who", used.who(bound, cell, 0, 0), fresh.who(bound, cell, 0, 0));
                }
            }
            check.same(text + " clashes", used.clash(0), fresh.clash(0));
            check.same(text + " alone", used.count(7), fresh.count(7));
            check.same(text + " best order", used.bestOrder(true), fresh.bestOrder(true));
        }
    }
}
