/** Promises 13 to 17: carts alone, their clashes, what they reach. */
public final class AloneTest {
    private static final Check CHECK = new Check("alone");

    public static void main(String[] args) {
        costAndWay();
        oneWayCells();
        noWay();
        clashInACell();
        clashBySwapping();
        firstOfSeveralClashes();
        noClash();
        reachAndFar();
        CHECK.close();
    }

    private static void way(CartPaths paths, int cart, int... cells) {
        for (int time = 0; time <= 40; time++) {
            CHECK.same("alone " + cart + " at " + time, paths.alone(cart, time),
                    cells[Math.min(time, cells.length - 1)]);
        }
    }

    private static void costAndWay() {
        CartPaths paths = Check.of("row ...;row ...;row ...;cart a at 0 2 to 2 0;cart b at 1 1 to 1 1;");
        CHECK.same("cost", paths.cost(0), 4);
        CHECK.same("cost of one on its goal", paths.cost(1), 0);
        way(paths, 0, 12, 6, 0, 1, 2);
        way(paths, 1, 7);
        CHECK.noPlace("no cart", () -> paths.cost(2));
        CHECK.noPlace("no cart below 0", () -> paths.cost(-1));
        CHECK.noPlace("no cart's way", () -> paths.alone(2, 99));
        CHECK.noNumber("time 41", () -> paths.alone(0, 41));
        CHECK.noNumber("time -1", () -> paths.alone(0, -1));
        CartPaths back = Check.of("row ...;row ...;row ...;cart a at 2 0 to 0 2;");
        way(back, 0, 2, 8, 14, 13, 12);
        CartPaths right = Check.of("row ...;row ...;cart a at 0 0 to 2 1;");
        way(right, 0, 0, 1, 2, 8);
    }

    private static void oneWayCells() {
        // the way round is forced by cells that are left one way alone
        CartPaths paths = Check.of("row v<.;row ..^;cart a at 1 0 to 2 0;cart b at 2 1 to 0 1;");
        way(paths, 0, 1, 0, 6, 7, 8, 2);
        CHECK.same("cost round", paths.cost(0), 5);
        way(paths, 1, 8, 2, 1, 0, 6);
        CartPaths down = Check.of("row >v;row ^<;cart a at 0 0 to 0 1;");
        way(down, 0, 0, 1, 7, 6);
    }

    private static void noWay() {
        CartPaths paths = Check.of("row .#.;cart a at 0 0 to 2 0;cart b at 2 0 to 0 0;");
        CHECK.same("no cost", paths.cost(0), -1);
        CHECK.same("no way", paths.alone(0, 0), -1);
        CHECK.noNumber("no way at no time", () -> paths.alone(0, 41));
        CHECK.noElement("another what", () -> paths.clash(5));
        CHECK.noElement("what -1", () -> paths.clash(-1));
        CHECK.noState("clash", () -> paths.clash(0));
        CHECK.noState("clash 4", () -> paths.clash(4));
        CHECK.same("no sum", paths.count(7), -1);
        CHECK.same("the longest way", Check.of(Scenes.SNAKE + "cart a at 0 0 to 0 5;").cost(0), 35);
    }

    private static void clash(CartPaths paths, int... due) {
        for (int what = 0; what <= 4; what++) {
            CHECK.same("clash " + what, paths.clash(what), due[what]);
        }
    }

    private static void clashInACell() {
        clash(Check.of("row .....;cart a at 0 0 to 4 0;cart b at 4 0 to 0 0;"), 1, 2, 0, 0, 1);
        // b stays where a goes through
        clash(Check.of("row .....;cart a at 0 0 to 4 0;cart b at 3 0 to 3 0;"), 1, 3, 0, 0, 1);
    }

    private static void clashBySwapping() {
        clash(Check.of("row ....;cart a at 0 0 to 3 0;cart b at 3 0 to 0 0;"), 1, 2, 1, 0, 1);
        clash(Check.of("row ..;cart a at 0 0 to 1 0;cart b at 1 0 to 0 0;"), 1, 1, 1, 0, 1);
    }

    private static void firstOfSeveralClashes() {
        // at time 1 a and b change places, c and d meet: a cell comes ahead of a change
        CartPaths sorts = Check.of("row ...;row ...;cart a at 0 0 to 1 0;cart b at 1 0 to 0 0;"
                + "cart c at 0 1 to 2 1;cart d at 2 1 to 0 1;");
        clash(sorts, 2, 1, 0, 2, 3);
        // three in one cell are three pairs, the least carts first
        CartPaths three = Check.of("row ...;row ...;row ...;cart a at 0 1 to 2 1;cart b at 1 0 to 1 2;"
                + "cart c at 2 1 to 0 1;");
        clash(three, 3, 1, 0, 0, 1);
        // the lesser cart of a pair decides ahead of the other one
        CartPaths pairs = Check.of("row ...;row ...;cart a at 0 0 to 2 0;cart b at 0 1 to 2 1;"
                + "cart c at 2 1 to 0 1;cart d at 2 0 to 0 0;");
        clash(pairs, 2, 1, 0, 0, 3);
        // the least time decides ahead of sort and carts
        CartPaths earlier = Check.of("row ......;row ...###;cart a at 0 0 to 5 0;cart b at 5 0 to 0 0;"
                + "cart c at 0 1 to 2 1;cart d at 2 1 to 0 1;");
        clash(earlier, 2, 1, 0, 2, 3);
    }

    private static void noClash() {
        clash(Check.of("row ...;row ...;cart a at 0 0 to 2 0;cart b at 0 1 to 2 1;"), 0, -1, -1, -1, -1);
        // one that comes into the cell that another one leaves is no clash
        clash(Check.of("row ...;cart a at 0 0 to 1 0;cart b at 1 0 to 2 0;"), 0, -1, -1, -1, -1);
        clash(Check.of("row ..;row ..;cart a at 0 0 to 1 0;cart b at 1 0 to 1 1;cart c at 1 1 to 0 1;"
                + "cart d at 0 1 to 0 0;"), 0, -1, -1, -1, -1);
    }

    private static void reachAndFar() {
        CartPaths paths = Check.of("row .>.#.;row .#v#.;row ....#;cart a at 0 0 to 0 0;cart b at 4 0 to 4 1;"
                + "cart c at 2 1 to 2 2;");
        CHECK.same("reach of a", paths.reach(0), 9);
        CHECK.same("reach of b", paths.reach(1), 2);
        CHECK.same("reach of c", paths.reach(2), 9);
        CHECK.noPlace("no cart", () -> paths.reach(3));
        CHECK.noPlace("no cart below 0", () -> paths.reach(-1));
        CHECK.same("far by the one way", paths.far(0, 0, 2, 0), 2);
        CHECK.same("far back round", paths.far(2, 0, 0, 0), 6);
        CHECK.same("far from it to its left", paths.far(1, 0, 0, 0), 7);
        CHECK.same("far to itself", paths.far(1, 0, 1, 0), 0);
        CHECK.same("far to a part of its own", paths.far(0, 0, 4, 0), -1);
        CHECK.same("far to a wall", paths.far(0, 0, 3, 0), -1);
        CHECK.same("far from a wall", paths.far(3, 0, 2, 0), -1);
        CHECK.noPlace("no cell from", () -> paths.far(5, 0, 0, 0));
        CHECK.noPlace("no cell to", () -> paths.far(0, 0, 0, 3));
        CHECK.noPlace("no cell below 0", () -> paths.far(0, 0, -1, 0));
        CHECK.same("far through all cells", Check.of(Scenes.SNAKE).far(0, 0, 0, 5), 35);
    }
}
