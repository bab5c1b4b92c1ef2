/** A stop, sentence by sentence: promises 25, 32 and 33. */
final class EdgeStop {
    /** By its plan a is in 12, 13, 13, 14, 15 and b in 2, 8, 14, 20: a waits ahead of 14 till b has left it. */
    private static final String WAITS =
            "row ##.#;row ##.#;row ....;row ##.#;cart a at 0 2 to 3 2;cart b at 2 0 to 2 3;";
    /** a goes two cells behind b. */
    private static final String APART = "row ......;cart a at 0 0 to 3 0;cart b at 2 0 to 5 0;";
    private static final String ONE = "row ....;cart a at 0 0 to 3 0;";

    private final Check check;

    EdgeStop(Check check) {
        this.check = check;
    }

    void look() {
        howLong();
        nextMove();
        noLongerThanNeeded();
        notIntoACellThatIsNotLeft();
        howLate();
        late();
        slack();
        critical();
    }

    private void howLong() {
        check.terms("A STOP, by the PLAN of a BOUND: a CART stands still from a TIME on for n TIMES (1 to 20):");
        CartPaths one = Check.of(ONE);
        for (int n = 1; n <= 20; n++) {
            check.same("for " + n, one.late(10, 0, 0, 0, n), n);
        }
        for (int n : new int[] {0, 21, -1, Integer.MIN_VALUE, Integer.MAX_VALUE}) {
            check.noNumber("for " + n, () -> one.late(10, 0, 0, 0, n));
            check.noNumber("critical for " + n, () -> one.critical(10, n, true));
        }
        CartPaths loose = Check.of(Scenes.LOOSE);
        check.same("by 10", loose.late(10, 0, 0, 0, 1), 1);
        check.same("by 15 it waits anyhow", loose.late(15, 0, 0, 0, 1), 0);
    }

    private void nextMove() {
        check.terms("its next MOVE of those by which it would come to another CELL later than that TIME brings it there "
                + "not sooner than TIME and n and 1.");
        CartPaths one = Check.of(ONE);
        int[] due = {5, 5, 5, 0, 0};
        for (int time = 0; time <= 40; time++) {
            check.same("from " + time, one.late(10, 0, 0, time, 5), due[Math.min(time, 4)]);
        }
        // a's moves come at 1, 3 and 4
        CartPaths waits = Check.of(WAITS);
        check.same("the first move may be late by one", waits.late(10, 0, 0, 0, 1), 0);
        check.same("but not by two", waits.late(10, 0, 0, 0, 2), 1);
        check.same("the second one comes at 3 anyhow", waits.late(10, 0, 0, 1, 1), 0);
        check.same("not sooner than 4", waits.late(10, 0, 0, 1, 2), 1);
        check.same("not sooner than 4 by a later stop", waits.late(10, 0, 0, 2, 1), 1);
        check.same("the third one", waits.late(10, 0, 0, 3, 1), 1);
        check.same("no move is left", waits.late(10, 0, 0, 4, 20), 0);
    }

    private void noLongerThanNeeded() {
        check.terms("All CARTS go their WAYS CELL by CELL (staying as long as they must, and no longer),");
        CartPaths waits = Check.of(WAITS);
        // a comes to 13 at 2, and to 14 at 3 as told: it does not wait there again
        check.same("a makes up for it", waits.late(10, 0, 0, 0, 1), 0);
        check.same("b, which waits for nobody", waits.late(10, 1, 0, 0, 20), 0);
        check.terms("each coming not sooner than told by its WAY,");
        check.same("a stop behind its end", waits.late(10, 0, 0, 40, 20), 0);
        check.same("a stop of one that has ended", waits.late(10, 0, 1, 3, 20), 0);
        check.same("a short stop where it waits", waits.late(10, 0, 0, 1, 1), 0);
        check.terms("one TIME at least behind the one ahead,");
        // a comes to 13 at 6, to 14 at 7, to 15 at 8
        check.same("each later by as much", waits.late(10, 0, 0, 0, 5), 4);
        check.same("from the first move on", Check.of(ONE).late(10, 0, 0, 0, 20), 20);
    }

    private void notIntoACellThatIsNotLeft() {
        check.terms("and not sooner into a CELL than another one that was in it ahead of it by the PLAN has come "
                + "to its next CELL.");
        CartPaths waits = Check.of(WAITS);
        // b comes to 20 at 4, and so does a to 14
        check.same("at that very time", waits.late(10, 0, 1, 0, 1), 1);
        check.same("b stops in 14", waits.late(10, 0, 1, 2, 4), 4);
        CartPaths apart = Check.of(APART);
        check.same("one cell between is made up for", apart.late(10, 0, 1, 0, 1), 0);
        check.same("more is not", apart.late(10, 0, 1, 0, 2), 1);
        check.same("a place that is left", apart.late(10, 0, 1, 0, 20), 19);
        check.same("the one ahead never waits", apart.late(10, 1, 0, 0, 20), 0);
        // by 10 b comes to 7 at 3; a, stopped for three times, leaves 7 for 1 at 5
        CartPaths loose = Check.of(Scenes.LOOSE);
        check.same("a itself", loose.late(10, 0, 0, 0, 3), 3);
        check.same("b waits for a", loose.late(10, 1, 0, 0, 3), 2);
        // b leaves cell 1 at 1, a comes there at 2: it waits for b's stop
        check.same("a waits for b", loose.late(10, 0, 1, 0, 3), 2);
        check.same("b by its own stop", loose.late(10, 1, 1, 0, 3), 3);
        CartPaths ring = Check.of(Scenes.RING);
        for (int stopped = 0; stopped < 4; stopped++) {
            for (int cart = 0; cart < 4; cart++) {
                check.same("in a ring all wait", ring.late(10, cart, stopped, 0, 7), 7);
            }
        }
    }

    private void howLate() {
        check.terms("LATE of a CART: by how much later it comes to the last CELL of its WAY than by the PLAN "
                + "(TIMES beyond 40, too).");
        CartPaths snake = Check.of(Scenes.SNAKE + "cart a at 0 0 to 0 5;");
        for (int time = 0; time < 35; time++) {
            check.same("from " + time, snake.late(10, 0, 0, time, 20), 20);
        }
        check.same("from its end on", snake.late(10, 0, 0, 35, 20), 0);
        // b is on its goal at 0, but its last cell is the one to which it comes back at 2
        CartPaths bay = Check.of(Scenes.BAY);
        check.same("b comes back later", bay.late(10, 1, 0, 0, 4), 4);
        check.same("b comes back later by itself", bay.late(10, 1, 1, 1, 4), 4);
        check.same("one that never moves", Check.of(Scenes.STILL).late(10, 0, 0, 0, 20), 0);
    }

    private void late() {
        check.promise(25, "LATE of a CART by a STOP of another one (or itself).");
        CartPaths waits = Check.of(WAITS);
        check.same("a by b", waits.late(10, 0, 1, 0, 3), 3);
        check.same("b by b", waits.late(10, 1, 1, 0, 3), 3);
        check.same("b by a", waits.late(10, 1, 0, 0, 3), 0);
        check.same("a by a", waits.late(10, 0, 0, 0, 3), 2);
    }

    private void slack() {
        check.promise(32, "The greatest n (0 to 20) for which a STOP of a CART from a TIME on for n TIMES "
                + "makes no other CART LATE (0: none does).");
        check.same("each makes a late", Check.of(WAITS).slack(10, 1, 0), 0);
        check.same("none does", Check.of(WAITS).slack(10, 0, 0), 20);
        check.same("one", Check.of(APART).slack(10, 1, 0), 1);
        check.same("it has ended", Check.of(APART).slack(10, 1, 3), 20);
        check.same("its own lateness does not count", Check.of(ONE).slack(10, 0, 0), 20);
        check.same("in a ring", Check.of(Scenes.RING).slack(10, 3, 0), 0);
        CartPaths far = Check.of("row ......;row .#####;cart a at 0 1 to 3 0;cart b at 4 0 to 5 0;");
        check.same("nobody comes there", far.slack(10, 1, 0), 20);
        far.goal(0, 4, 0);
        // a comes to 4 at 5, b leaves it at 1
        check.same("four", far.slack(10, 1, 0), 4);
    }

    private void critical() {
        check.promise(33, "The CART whose STOP from TIME 0 on for n TIMES makes all LATE the most, together (all false), "
                + "or by how much (true);");
        CartPaths waits = Check.of(WAITS);
        check.same("b", waits.critical(10, 3, false), 1);
        check.same("both by 3", waits.critical(10, 3, true), 6);
        CartPaths apart = Check.of(APART);
        check.same("b for 20", apart.critical(10, 20, false), 1);
        check.same("20 and 19", apart.critical(10, 20, true), 39);
        check.promise(33, "of several the least;");
        check.same("a and b both by one", apart.critical(10, 1, false), 0);
        check.same("by one", apart.critical(10, 1, true), 1);
        check.same("the ring's first", Check.of(Scenes.RING).critical(10, 20, false), 0);
        check.same("by 80", Check.of(Scenes.RING).critical(10, 20, true), 80);
        check.same("nobody is late", Check.of(Scenes.STILL).critical(10, 20, false), 0);
        check.same("by 0", Check.of(Scenes.STILL).critical(10, 20, true), 0);
        check.promise(33, "NONE: no CARTS.");
        check.same("no carts", Check.of("row .;").critical(10, 1, false), -1);
        check.same("no carts, by how much", Check.of("row .;").critical(10, 20, true), -1);
    }
}
