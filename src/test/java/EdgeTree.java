/** The tree by a bound, sentence by sentence: promises 18 and 19. */
final class EdgeTree {
    private final Check check;

    EdgeTree(Check check) {
        this.check = check;
    }

    void look() {
        bounds();
        nodes();
        nodeZero();
        anew();
        chosen();
        split();
        childrenThatDoNotCome();
        cut();
        plan();
        planWithout();
        node();
    }

    private void plan(CartPaths paths, int bound, int... due) {
        for (int what = 0; what < due.length; what++) {
            check.same("plan by " + bound + " what " + what, paths.plan(bound, what), due[what]);
        }
    }

    private void node(CartPaths paths, int bound, int node, int... due) {
        for (int what = 0; what < due.length; what++) {
            check.same("node " + node + " by " + bound + " what " + what, paths.node(bound, node, what), due[what]);
        }
    }

    private void bounds() {
        check.terms("A TREE by a BOUND (10 to 30, in tenths):");
        CartPaths paths = Check.of(Scenes.LOOSE);
        for (int bound = 10; bound <= 30; bound++) {
            check.same("sum by " + bound, paths.plan(bound, 0), bound < 15 ? 5 : 6);
        }
        for (int bound : new int[] {9, 31, 0, -10, Integer.MIN_VALUE, Integer.MAX_VALUE}) {
            check.noNumber("bound " + bound, () -> paths.plan(bound, 0));
        }
    }

    private void nodes() {
        check.terms("NODES, numbered as they come, each with what is FORBIDDEN to CARTS, "
                + "and of each its BEST WAY by that;");
        CartPaths paths = Check.of(Scenes.LOOSE);
        node(paths, 10, 1, 0, 4, 1, 0, 1);
        node(paths, 10, 2, 0, 4, 1, 1, 1);
        node(paths, 10, 3, 1, 5, 1, 0, 2);
        node(paths, 10, 4, 1, 6, 0, 1, 2);
        node(paths, 10, 5, 2, 5, 1, 0, 2);
        node(paths, 10, 6, 2, 5, 0, 1, 2);
        check.terms("SUM: of all COSTS;");
        check.same("five on their goals", Check.of("row .....;cart a at 0 0 to 0 0;cart b at 1 0 to 1 0;"
                + "cart c at 2 0 to 2 0;cart d at 3 0 to 3 0;cart e at 4 0 to 4 0;").node(10, 0, 1), 0);
        check.same("five that go", Check.of("row ......;row ......;row ......;row ......;row ......;"
                + "cart a at 0 0 to 1 0;cart b at 0 1 to 2 1;cart c at 0 2 to 3 2;cart d at 0 3 to 4 3;"
                + "cart e at 0 4 to 5 4;").node(10, 0, 1), 15);
        check.terms("CLASHES: how many there are in all.");
        check.same("two at one pair", Check.of("row ....;row #.##;cart a at 1 1 to 3 0;cart b at 0 0 to 2 0;")
                .node(10, 0, 2), 2);
        check.same("six at one time", Check.of("row #.#;row ...;row #.#;cart a at 0 1 to 2 1;cart b at 1 0 to 1 2;"
                + "cart c at 2 1 to 0 1;cart d at 1 2 to 1 0;").node(10, 0, 2), 6);
        stayingTogether();
    }

    /** By node 3 a is in 1, 2, 2, 1, where c is in 2 for ever: one clash when a comes, one when both stay. */
    private void stayingTogether() {
        CartPaths paths = Check.of("row ...;row ...;cart a at 1 0 to 1 0;cart b at 2 1 to 0 0;cart c at 2 0 to 2 0;");
        node(paths, 10, 0, -1, 3, 2, -1, 0, 1);
        node(paths, 10, 1, 0, 3, 1, 1, 1, 1);
        node(paths, 10, 2, 0, 5, 2, 2, 1, 0);
        node(paths, 10, 3, 1, 6, 2, 0, 2, 0);
        node(paths, 10, 4, 1, 3, 0, 1, 2, 0);
        plan(paths, 10, 3, 5, 2, 3, 3, 4);
    }

    private void nodeZero() {
        check.terms("NODE 0: nothing is FORBIDDEN (if some CART has no WAY, there is no NODE, and no PLAN).");
        node(Check.of(Scenes.CROSSING), 10, 0, -1, 4, 1, -1, 0, 1);
        CartPaths none = Check.of(Scenes.NO_NODE);
        plan(none, 10, -1, 0, 0, -1, -1, -1);
        check.noElement("no node 0", () -> none.node(10, 0, 0));
        check.terms("NODES that were not SPLIT yet wait.");
        CartPaths paths = Check.of(Scenes.CROSSING);
        check.same("split", paths.node(10, 0, 5), 1);
        check.same("waits, and is the plan", paths.node(10, 1, 5), 0);
        check.same("waits", paths.node(10, 2, 5), 0);
    }

    /** The tree of one bound, built again and again for other scenes. */
    private void anew() {
        CartPaths paths = Check.of(Scenes.NONE_WAITS);
        plan(paths, 10, -1, 39, 39, -1, 40, -1);
        Check.feed(paths, Scenes.CROSSING);
        paths.read();
        plan(paths, 10, 5, 3, 1, 3, 5, 1);
        node(paths, 10, 1, 0, 5, 0, 0, 1, 0);
        node(paths, 10, 2, 0, 5, 0, 1, 1, 0);
        paths.tell(1, 1, 1);
        plan(paths, 10, -1, 0, 0, -1, -1, -1);
        paths.undo();
        plan(paths, 10, 5, 3, 1, 3, 5, 1);
        paths.goal(1, 1, 0);
        plan(paths, 10, 2, 1, 0, 2, 2, 0);
        node(paths, 10, 0, -1, 2, 0, -1, 0, 0);
        Check.feed(paths, "row ..;cart a at 0 0 to 1 0;cart b at 1 0 to 0 0;");
        paths.read();
        check.same("cut", paths.plan(10, 0), -2);
        paths.change(0, 1);
        plan(paths, 10, 0, 1, 0, 0, 0, 0);
        Check.feed(paths, Scenes.NO_NODE);
        paths.read();
        plan(paths, 10, -1, 0, 0, -1, -1, -1);
    }

    private void chosen() {
        check.terms("Again and again: LOW is the least SUM of those that wait;");
        CartPaths paths = Check.of(Scenes.LOOSE);
        check.same("by 15 a node of sum 4 waits", paths.plan(15, 4), 4);
        check.same("by 14 none of sum 4 waits any more", paths.plan(14, 4), 5);
        // b goes ahead of a through nearly all cells
        check.same("a great sum", Check.of(Scenes.SNAKE + "cart a at 0 0 to 2 5;cart b at 1 0 to 0 5;").plan(10, 4),
                33 + 34);
        check.terms("of those whose SUM, ten times, is no more than BOUND times LOW:");
        // node 4 has the sum 6 when 4 is the least: 60 is no more than 15 times 4, but more than 14 times
        plan(paths, 15, 6, 5, 2, 3, 4, 4);
        plan(paths, 14, 5, 7, 3, 3, 5, 6);
        check.terms("the one of fewest CLASHES,");
        check.same("node 4 without a clash, ahead of node 2 with less", paths.node(15, 2, 5), 0);
        check.terms("of several that of the least SUM,");
        // a may wait (sum 4), or b may go down first (sum 3): both are without a clash
        CartPaths sums = Check.of("row ...;row ...;cart a at 2 0 to 1 0;cart b at 0 0 to 1 1;");
        plan(sums, 14, 3, 3, 1, 2, 3, 2);
        node(sums, 14, 1, 0, 4, 0);
        node(sums, 14, 2, 0, 3, 0);
        plan(sums, 30, 3, 3, 1, 2, 3, 2);
        check.terms("then the first.");
        CartPaths first = Check.of(Scenes.CROSSING);
        node(first, 10, 1, 0, 5, 0);
        node(first, 10, 2, 0, 5, 0);
        check.same("node 1 is the plan", first.plan(10, 5), 1);
        check.terms("Without a CLASH its WAYS are the PLAN.");
        check.same("a waits", first.at(10, 0, 1), 6);
        check.same("b goes", first.at(10, 1, 1), 7);
        CartPaths none = Check.of("row ..;row ..;cart a at 0 0 to 1 0;cart b at 0 1 to 1 1;");
        plan(none, 10, 2, 1, 0, 1, 2, 0);
    }

    private void split() {
        check.terms("Else it is SPLIT by its FIRST CLASH: two NODES come, the lesser CART's ahead:");
        CartPaths paths = Check.of("row ...;row ..#;cart a at 0 1 to 1 1;cart b at 1 1 to 0 1;"
                + "cart c at 0 0 to 2 0;cart d at 2 0 to 0 0;");
        // they meet and change places at time 1: the meeting is the first, of the carts 2 and 3
        node(paths, 10, 1, 0, 7, 2, 2, 1);
        check.same("the other cart's", paths.node(10, 2, 3), 3);
        check.terms("what is FORBIDDEN to it is that CELL at that TIME (sort 0),");
        CartPaths cell = Check.of("row ..#;row ...;row #.#;row #.#;cart a at 0 0 to 2 1;cart b at 1 3 to 1 0;");
        // a waits in 1 ahead of 7, and would change places with b then
        node(cell, 10, 1, 0, 7, 1, 0, 1);
        check.terms("that MOVE by which it comes at that TIME (sort 1),");
        CartPaths move = Check.of("row ...;row ...;row ...;cart a at 0 0 to 1 1;cart b at 1 2 to 1 0;");
        node(move, 10, 1, 0, 4, 0, 0, 1);
        node(move, 10, 2, 0, 5, 1, 1, 1);
        check.terms("and all that was;");
        // each node forbids one cell more, and a comes one time later
        CartPaths more = Check.of(Scenes.NONE_WAITS);
        for (int node = 1; node < 39; node++) {
            node(more, 10, node, node - 1, 2 + node, 1, 0, node, 1);
        }
    }

    private void childrenThatDoNotCome() {
        check.terms("its BEST WAY is found anew; where it has none, that NODE does not come (and has no number).");
        CartPaths other = Check.of(Scenes.NONE_WAITS);
        check.same("the other cart's never come", other.plan(10, 1), 39);
        CartPaths lesser = Check.of("row .>>;cart a at 1 0 to 1 0;cart b at 0 0 to 2 0;");
        check.same("the lesser cart's never come", lesser.plan(10, 1), 39);
        for (int node = 1; node < 39; node++) {
            node(lesser, 10, node, node - 1, 2 + node, 1, 1, node, 1);
        }
        check.terms("If no NODE waits: no PLAN.");
        plan(other, 10, -1, 39, 39, -1, 40, -1);
        plan(lesser, 30, -1, 39, 39, -1, 40, -1);
        check.noElement("no node more", () -> lesser.node(10, 39, 0));
    }

    /** A plan's or a cut tree's nodes and splits, as the plain second reading finds them too. */
    private void grown(String text, int bound, int sum, int nodes, int splits) {
        CartPaths paths = Check.of(text);
        plan(paths, bound, sum, nodes, splits);
        Oracle oracle = new Oracle();
        oracle.parse(text);
        Oracle.Grown tree = oracle.grow(bound);
        check.same("nodes of the second reading", tree.branches.size(), nodes);
        check.same("splits of the second reading", tree.splits, splits);
        check.same("cut by the second reading", tree.cut ? 1 : 0, sum == -2 ? 1 : 0);
        check.same("low of the second reading", paths.plan(bound, 4), tree.low);
        check.same("plan of the second reading", paths.plan(bound, 5), tree.plan);
        check.same("sum of the second reading", tree.plan < 0 ? -2 : oracle.sum(tree.ways()), sum);
        check.noElement("no node more", () -> paths.node(bound, nodes, 0));
        check.same("the last node", paths.node(bound, nodes - 1, 1), tree.branches.get(nodes - 1).sum);
    }

    private void cut() {
        check.terms("With 300 NODES or more, ahead of a SPLIT, it is CUT.");
        // a plan that is found with so many nodes needs no split any more
        grown("row ...;row ..#;cart a at 2 0 to 0 1;cart b at 1 0 to 1 0;cart c at 1 1 to 1 1;", 13, 7, 300, 153);
        grown("row ......;row #.##..;cart a at 1 1 to 3 0;cart b at 5 1 to 1 0;", 13, 15, 301, 150);
        // 299 are not yet too many
        grown("row ..#.;row ....;cart a at 0 0 to 1 0;cart b at 1 1 to 2 1;cart c at 3 0 to 0 0;", 16, 16, 299, 149);
        grown("row ..;cart a at 0 0 to 1 0;cart b at 1 0 to 0 0;", 10, -2, 301, 213);
        grown("row ...;cart a at 1 0 to 1 0;cart b at 2 0 to 0 0;", 10, -2, 300, 166);
    }

    private void plan() {
        check.promise(18, "Of the TREE by a BOUND what 0 the PLAN's SUM (NONE: no PLAN; -2: CUT),");
        check.same("a plan", Check.of(Scenes.CROSSING).plan(10, 0), 5);
        check.same("no node", Check.of(Scenes.NO_NODE).plan(10, 0), -1);
        check.same("none waits", Check.of(Scenes.NONE_WAITS).plan(10, 0), -1);
        check.same("cut", Check.of(Scenes.CUT).plan(10, 0), -2);
        check.promise(18, "1 how many NODES came, 2 how many were SPLIT,");
        plan(Check.of(Scenes.CROSSING), 30, 5, 3, 1);
        plan(Check.of("row .;cart a at 0 0 to 0 0;"), 30, 0, 1, 0);
        plan(Check.of(Scenes.NO_NODE), 30, -1, 0, 0);
        check.promise(18, "3 the latest TIME at which a CART ENDS by the PLAN (NONE without a PLAN, without CARTS),");
        check.same("a's", Check.of(Scenes.CROSSING).plan(10, 3), 3);
        check.same("all at 0", Check.of("row .;cart a at 0 0 to 0 0;").plan(10, 3), 0);
        check.same("without carts", Check.of("row .;").plan(10, 3), -1);
        check.same("no node", Check.of(Scenes.NO_NODE).plan(10, 3), -1);
        check.same("none waits", Check.of(Scenes.NONE_WAITS).plan(10, 3), -1);
        check.same("cut", Check.of(Scenes.CUT).plan(10, 3), -1);
        check.promise(18, "4 LOW, as it was last asked (NONE: no NODE),");
        check.same("the plan's", Check.of(Scenes.CROSSING).plan(10, 4), 5);
        check.same("less than the plan's sum", Check.of(Scenes.LOOSE).plan(15, 4), 4);
        check.same("as last asked ahead of none that waits", Check.of(Scenes.NONE_WAITS).plan(10, 4), 40);
        check.same("with one cart more", Check.of("row .>>;row ###;row ...;cart a at 0 0 to 2 0;cart b at 1 0 to 1 0;"
                + "cart c at 0 2 to 2 2;").plan(10, 4), 42);
        check.same("no node", Check.of(Scenes.NO_NODE).plan(10, 4), -1);
        check.same("without carts", Check.of("row .;").plan(10, 4), 0);
    }

    private void planWithout() {
        check.promise(18, "5 the NODE that is the PLAN (NONE).");
        check.same("node 1", Check.of(Scenes.CROSSING).plan(10, 5), 1);
        check.same("node 0", Check.of("row .;").plan(10, 5), 0);
        check.same("no node", Check.of(Scenes.NO_NODE).plan(10, 5), -1);
        check.same("none waits", Check.of(Scenes.NONE_WAITS).plan(10, 5), -1);
        check.same("cut", Check.of(Scenes.CUT).plan(10, 5), -1);
        check.promise(18, "NoSuchElementException: another what.");
        for (String text : new String[] {Scenes.CROSSING, Scenes.NO_NODE, Scenes.CUT}) {
            CartPaths paths = Check.of(text);
            for (int what : new int[] {-1, 6, Integer.MIN_VALUE, Integer.MAX_VALUE}) {
                check.noElement("what " + what, () -> paths.plan(10, what));
            }
        }
    }

    private void node() {
        check.promise(19, "Of a NODE of it what 0 the one by which it came (NONE), 1 SUM, 2 CLASHES, "
                + "3 the CART to which something is FORBIDDEN by it that was not ahead (NONE: NODE 0), "
                + "4 how much is FORBIDDEN in all, 5 1 if it was SPLIT, else 0.");
        CartPaths paths = Check.of(Scenes.LOOSE);
        node(paths, 10, 0, -1, 3, 1, -1, 0, 1);
        node(paths, 10, 2, 0, 4, 1, 1, 1, 1);
        node(paths, 10, 6, 2, 5, 0, 1, 2, 0);
        node(paths, 15, 2, 0, 4, 1, 1, 1, 0);
        // a was forbidden something by node 1, b by node 4: both count there
        node(paths, 15, 4, 1, 6, 0, 1, 2, 0);
        check.promise(19, "NoSuchElementException: there is no such NODE, another what.");
        for (int node : new int[] {-1, 7, Integer.MIN_VALUE, Integer.MAX_VALUE}) {
            check.noElement("node " + node, () -> paths.node(10, node, 0));
        }
        check.same("node 5 is of the tree by 10", paths.node(10, 5, 0), 2);
        check.noElement("and not of that by 15", () -> paths.node(15, 5, 0));
        for (int what : new int[] {-1, 6, Integer.MIN_VALUE, Integer.MAX_VALUE}) {
            check.noElement("what " + what, () -> paths.node(10, 0, what));
        }
        check.noElement("no node at all", () -> Check.of(Scenes.NO_NODE).node(10, 0, 0));
    }
}
