/** Promises 18 and 19: the tree of clashes by a bound, and its nodes. */
public final class TreeTest {
    private static final Check CHECK = new Check("tree");

    public static void main(String[] args) {
        planOfACrossing();
        nodesOfACrossing();
        lesserCartSplitsFirst();
        planByMoves();
        noNode();
        noPlanWhenNoneWaits();
        cut();
        boundTakesFewestClashes();
        wrongNumbers();
        CHECK.close();
    }

    private static void plan(CartPaths paths, int bound, int... due) {
        for (int what = 0; what <= 5; what++) {
            CHECK.same("plan " + bound + " what " + what, paths.plan(bound, what), due[what]);
        }
    }

    private static void node(CartPaths paths, int bound, int node, int... due) {
        for (int what = 0; what <= 5; what++) {
            CHECK.same("node " + node + " what " + what, paths.node(bound, node, what), due[what]);
        }
    }

    private static void planOfACrossing() {
        CartPaths paths = Check.of(Scenes.CROSSING);
        plan(paths, 10, 5, 3, 1, 3, 5, 1);
        plan(paths, 30, 5, 3, 1, 3, 5, 1);
        CartPaths none = Check.of("row ...;");
        plan(none, 10, 0, 1, 0, -1, 0, 0);
        CartPaths still = Check.of("row ...;cart a at 1 0 to 1 0;");
        plan(still, 17, 0, 1, 0, 0, 0, 0);
        CartPaths follow = Check.of("row ...;cart a at 0 0 to 1 0;cart b at 1 0 to 2 0;");
        plan(follow, 10, 2, 1, 0, 1, 2, 0);
    }

    private static void nodesOfACrossing() {
        CartPaths paths = Check.of(Scenes.CROSSING);
        node(paths, 10, 0, -1, 4, 1, -1, 0, 1);
        node(paths, 10, 1, 0, 5, 0, 0, 1, 0);
        node(paths, 10, 2, 0, 5, 0, 1, 1, 0);
    }

    private static void lesserCartSplitsFirst() {
        // either cart may wait for one time: of equal nodes the first is taken
        CartPaths paths = Check.of(Scenes.CROSSING);
        CHECK.same("a waits", paths.at(10, 0, 1), 6);
        CHECK.same("b goes", paths.at(10, 1, 1), 7);
        CartPaths turned = Check.of("row #.#;row ...;row #.#;cart a at 1 0 to 1 2;cart b at 0 1 to 2 1;");
        CHECK.same("the first cart waits again", turned.at(10, 0, 1), 1);
    }

    private static void planByMoves() {
        // they would change places at time 1
        CartPaths paths = Check.of("row ..;row ..;cart a at 0 0 to 1 0;cart b at 1 0 to 0 0;");
        CHECK.same("clash of sort 1", paths.clash(2), 1);
        node(paths, 10, 0, -1, 2, 1, -1, 0, 1);
        CHECK.same("node 1 forbids a its move alone", paths.node(10, 1, 4), 1);
        CHECK.same("a stays, then goes", paths.node(10, 1, 1), 3);
        CHECK.same("node 1 is a's", paths.node(10, 1, 3), 0);
        CHECK.same("node 2 is b's", paths.node(10, 2, 3), 1);
        CHECK.same("sum", paths.plan(10, 0), 4);
    }

    private static void noNode() {
        CartPaths paths = Check.of("row ..#.;cart a at 0 0 to 1 0;cart b at 1 0 to 3 0;");
        plan(paths, 10, -1, 0, 0, -1, -1, -1);
        CHECK.noElement("node 0", () -> paths.node(10, 0, 0));
    }

    private static void noPlanWhenNoneWaits() {
        // b must stay, or it can never come back; a tries each time to go through
        CartPaths paths = Check.of(Scenes.NONE_WAITS);
        plan(paths, 10, -1, 39, 39, -1, 40, -1);
        for (int node = 1; node < 39; node++) {
            node(paths, 10, node, node - 1, 2 + node, 1, 0, node, 1);
        }
        CHECK.noElement("no node of b", () -> paths.node(10, 39, 0));
        CHECK.noState("no plan", () -> paths.at(10, 0, 0));
    }

    private static void cut() {
        CartPaths paths = Check.of(Scenes.CUT);
        CHECK.same("cut", paths.plan(10, 0), -2);
        CHECK.same("no end", paths.plan(10, 3), -1);
        CHECK.same("no node is the plan", paths.plan(10, 5), -1);
        int nodes = paths.plan(10, 1);
        CHECK.same("300 nodes, or one more", nodes == 300 || nodes == 301 ? 1 : 0, 1);
        CHECK.same("the last node waits", paths.node(10, nodes - 1, 5), 0);
        CHECK.noElement("a node more", () -> paths.node(10, nodes, 0));
        int splits = 0;
        int low = Integer.MAX_VALUE;
        for (int node = 0; node < nodes; node++) {
            boolean waits = paths.node(10, node, 5) == 0;
            splits += waits ? 0 : 1;
            low = waits ? Math.min(low, paths.node(10, node, 1)) : low;
        }
        CHECK.same("splits", paths.plan(10, 2), splits);
        CHECK.same("low as last asked", paths.plan(10, 4), low);
        CHECK.noState("no plan", () -> paths.at(10, 0, 0));
    }

    private static void boundTakesFewestClashes() {
        CartPaths paths = Check.of(Scenes.LOOSE);
        plan(paths, 10, 5, 7, 3, 3, 5, 6);
        node(paths, 10, 0, -1, 3, 1, -1, 0, 1);
        node(paths, 10, 1, 0, 4, 1, 0, 1, 1);
        node(paths, 10, 2, 0, 4, 1, 1, 1, 1);
        node(paths, 10, 3, 1, 5, 1, 0, 2, 0);
        node(paths, 10, 4, 1, 6, 0, 1, 2, 0);
        node(paths, 10, 5, 2, 5, 1, 0, 2, 0);
        node(paths, 10, 6, 2, 5, 0, 1, 2, 0);
        // node 4 has no clash; 6 is no more than 1.5 times the least sum 4, but more than 1.4 times
        plan(paths, 15, 6, 5, 2, 3, 4, 4);
        plan(paths, 14, 5, 7, 3, 3, 5, 6);
        plan(paths, 30, 6, 5, 2, 3, 4, 4);
        int[] b = {1, 2, 8, 7};
        for (int time = 0; time <= 3; time++) {
            CHECK.same("b goes aside", paths.at(15, 1, time), b[time]);
        }
    }

    private static void wrongNumbers() {
        CartPaths paths = Check.of(Scenes.CROSSING);
        CHECK.noNumber("bound 9", () -> paths.plan(9, 6));
        CHECK.noNumber("bound 31", () -> paths.plan(31, 0));
        CHECK.noElement("what 6", () -> paths.plan(10, 6));
        CHECK.noElement("what -1", () -> paths.plan(30, -1));
        CHECK.noNumber("node's bound 9", () -> paths.node(9, 99, 99));
        CHECK.noNumber("node's bound 31", () -> paths.node(31, 0, 0));
        CHECK.noElement("node 3", () -> paths.node(10, 3, 0));
        CHECK.noElement("node -1", () -> paths.node(10, -1, 0));
        CHECK.noElement("node's what 6", () -> paths.node(10, 0, 6));
        CHECK.noElement("node's what -1", () -> paths.node(10, 0, -1));
    }
}
