/** Promises 20 to 24, 26 to 31 and 34 to 37: what is told of a plan, but for stops. */
public final class PlanTest {
    private static final Check CHECK = new Check("plan");

    public static void main(String[] args) {
        atAndMove();
        usedAndBusiest();
        sharedCells();
        waits();
        worse();
        who();
        near();
        follows();
        ended();
        way();
        without();
        again();
        among();
        wrongNumbers(Check.of(Scenes.CROSSING));
        withoutAPlan(Check.of(Scenes.NONE_WAITS));
        withoutAPlan(Check.of(Scenes.CUT));
        noCarts(Check.of("row ..;"));
        CHECK.close();
    }

    private static void atAndMove() {
        CartPaths paths = Check.of(Scenes.CROSSING);
        int[] a = {6, 6, 7, 8};
        int[] b = {1, 7, 13, 13};
        for (int time = 0; time <= 40; time++) {
            CHECK.same("a at " + time, paths.at(10, 0, time), a[Math.min(time, 3)]);
            CHECK.same("b at " + time, paths.at(10, 1, time), b[Math.min(time, 3)]);
        }
        int[] moves = {4, 1, 1, 4};
        for (int time = 0; time < 40; time++) {
            CHECK.same("a's move from " + time, paths.move(10, 0, time), moves[Math.min(time, 3)]);
        }
        CHECK.same("b's move from 0", paths.move(10, 1, 0), 2);
        CartPaths round = Check.of("row v<;row .^;cart a at 1 0 to 1 1;cart b at 1 1 to 1 0;");
        CHECK.same("left", round.move(10, 0, 0), 3);
        CHECK.same("down", round.move(10, 0, 1), 2);
        CHECK.same("right", round.move(10, 0, 2), 1);
        CHECK.same("up", round.move(10, 1, 0), 0);
    }

    private static void usedAndBusiest() {
        CartPaths paths = Check.of(Scenes.CROSSING);
        CHECK.same("used by both", paths.used(10, 1, 1, false), 2);
        CHECK.same("left by both", paths.used(10, 1, 1, true), 2);
        CHECK.same("used by a", paths.used(10, 0, 1, false), 1);
        CHECK.same("left by a", paths.used(10, 0, 1, true), 1);
        CHECK.same("a goal is used", paths.used(10, 2, 1, false), 1);
        CHECK.same("and not left", paths.used(10, 2, 1, true), 0);
        CHECK.same("a wall", paths.used(10, 0, 0, false), 0);
        CHECK.same("a wall is not left", paths.used(10, 0, 0, true), 0);
        CHECK.same("busiest", paths.busiest(10), 7);
        CHECK.same("of several the least", Check.of("row ...;cart a at 2 0 to 1 0;").busiest(10), 1);
        // b leaves its goal and comes back: one cart, used once
        CartPaths bay = Check.of(Scenes.BAY);
        CHECK.same("used by two", bay.used(10, 1, 0, false), 2);
        CHECK.same("left by two", bay.used(10, 1, 0, true), 2);
    }

    private static void sharedCells() {
        CartPaths paths = Check.of(Scenes.CROSSING);
        CHECK.same("how many", paths.shared(10, -1), 1);
        CHECK.same("the first", paths.shared(10, 0), 7);
        CHECK.same("behind", paths.shared(10, 1), -1);
        CHECK.same("below", paths.shared(10, -2), -1);
        CartPaths follow = Check.of("row ....;cart a at 0 0 to 2 0;cart b at 1 0 to 3 0;");
        CHECK.same("two", follow.shared(10, -1), 2);
        CHECK.same("first of two", follow.shared(10, 0), 1);
        CHECK.same("second of two", follow.shared(10, 1), 2);
    }

    private static void waits() {
        CHECK.same("a waits once", Check.of(Scenes.CROSSING).waits(10), 1);
        CHECK.same("nobody waits", Check.of("row ...;cart a at 0 0 to 2 0;").waits(10), 0);
        CHECK.same("going aside is no wait", Check.of(Scenes.BAY).waits(10), 0);
        // c stays on its goal all the time: it has ended
        CHECK.same("one that has ended does not wait",
                Check.of("row ..;row ..;cart c at 0 1 to 0 1;cart a at 0 0 to 1 0;").waits(10), 0);
    }

    private static void worse() {
        CHECK.same("5 by 4", Check.of(Scenes.CROSSING).worse(10), Float.floatToIntBits(1.25f));
        CHECK.same("alone 0", Check.of("row .;cart a at 0 0 to 0 0;").worse(10), Float.floatToIntBits(1.0f));
        CHECK.same("no worse", Check.of("row ...;cart a at 0 0 to 2 0;").worse(10), Float.floatToIntBits(1.0f));
        CHECK.same("4 by 2", Check.of(Scenes.BAY).worse(10), Float.floatToIntBits(2.0f));
        CartPaths third = Check.of(Scenes.LOOSE);
        CHECK.same("5 by 3", third.worse(10), Float.floatToIntBits(5.0f / 3.0f));
        CHECK.same("6 by 3", third.worse(15), Float.floatToIntBits(2.0f));
        CartPaths more = Check.of("row #..;row ..^;cart a at 2 0 to 2 0;cart b at 2 1 to 1 1;");
        CHECK.same("sum 7", more.plan(10, 0), 7);
        CHECK.same("7 by 3", more.worse(10), Float.floatToIntBits(7.0f / 3.0f));
        CHECK.same("8 by 2", Check.of("row #.#.##;row ......;cart a at 3 1 to 1 1;cart b at 2 1 to 2 1;").worse(10),
                Float.floatToIntBits(4.0f));
    }

    private static void who() {
        CartPaths paths = Check.of(Scenes.CROSSING);
        CHECK.same("b is there", paths.who(10, 1, 1, 1), 1);
        CHECK.same("a is there then", paths.who(10, 1, 1, 2), 0);
        CHECK.same("none", paths.who(10, 1, 1, 3), -1);
        CHECK.same("a at the end", paths.who(10, 2, 1, 40), 0);
        CHECK.same("a wall", paths.who(10, 0, 0, 0), -1);
    }

    private static void near() {
        CartPaths paths = Check.of(Scenes.CROSSING);
        CHECK.same("one apart", paths.near(10, 0, 1, false), 1);
        CHECK.same("first at 1", paths.near(10, 0, 1, true), 1);
        CHECK.same("the same from the other", paths.near(10, 1, 0, true), 1);
        CartPaths apart = Check.of("row ......;row ......;row ......;cart a at 0 0 to 0 0;cart b at 5 2 to 4 2;");
        CHECK.same("columns and rows", apart.near(10, 0, 1, false), 6);
        CHECK.same("then", apart.near(10, 0, 1, true), 1);
        CartPaths still = Check.of("row ...;cart a at 0 0 to 0 0;cart b at 2 0 to 2 0;");
        CHECK.same("always two apart", still.near(10, 0, 1, false), 2);
        CHECK.same("from the first time on", still.near(10, 0, 1, true), 0);
    }

    private static void follows() {
        CartPaths paths = Check.of(Scenes.CROSSING);
        CHECK.same("a comes where b leaves", paths.follows(10, 0, 1), 1);
        CHECK.same("b never where a leaves", paths.follows(10, 1, 0), 0);
        CartPaths row = Check.of("row ......;cart a at 0 0 to 4 0;cart b at 1 0 to 5 0;");
        CHECK.same("four times", row.follows(10, 0, 1), 4);
        CHECK.same("not the one ahead", row.follows(10, 1, 0), 0);
        CartPaths later = Check.of("row ......;cart a at 0 0 to 3 0;cart b at 2 0 to 5 0;");
        CHECK.same("a time behind is no following", later.follows(10, 0, 1), 0);
    }

    private static void ended() {
        CartPaths paths = Check.of(Scenes.CROSSING);
        int[] due = {0, 0, 2, 3, 3};
        for (int time = 0; time < due.length; time++) {
            CHECK.same("ended at " + time, paths.ended(10, time), due[time]);
        }
        CHECK.same("ended at 40", paths.ended(10, 40), 3);
        // b is on its goal at 0, but leaves it
        CartPaths bay = Check.of(Scenes.BAY);
        CHECK.same("none ended at 0", bay.ended(10, 0), 0);
        CHECK.same("none ended at 1", bay.ended(10, 1), 0);
        CHECK.same("both ended at 2", bay.ended(10, 2), 3);
    }

    private static void way(CartPaths paths, int cart, int... due) {
        for (int what = 0; what <= 4; what++) {
            CHECK.same("way of " + cart + " what " + what, paths.way(10, cart, what), due[what]);
        }
    }

    private static void way() {
        CartPaths paths = Check.of(Scenes.CROSSING);
        way(paths, 0, 3, 1, 3, 2, 3);
        way(paths, 1, 2, 0, 3, 2, 2);
        way(Check.of(Scenes.BAY), 0, 2, 0, 3, 2, 2);
        way(Check.of(Scenes.BAY), 1, 2, 2, 2, 2, 0);
        way(Check.of("row .;cart a at 0 0 to 0 0;"), 0, 0, 0, 1, 0, 0);
        CHECK.noElement("what 5", () -> paths.way(10, 0, 5));
        CHECK.noElement("what -1", () -> paths.way(10, 0, -1));
    }

    private static void without() {
        CartPaths one = Check.of("row ...;row ...;cart a at 0 0 to 2 0;");
        CHECK.same("round is two more", one.without(10, 1, 0), 2);
        CHECK.same("not needed", one.without(10, 1, 1), 0);
        CHECK.same("nothing stays", one.cell(1, 0), 0);
        CHECK.same("the plan stays", one.at(10, 0, 1), 1);
        CHECK.same("no act", one.count(5), 0);
        CHECK.noState("a place", () -> one.without(10, 0, 0));
        CHECK.noState("a goal", () -> one.without(10, 2, 0));
        CartPaths crossing = Check.of(Scenes.CROSSING);
        CHECK.same("no plan then", crossing.without(10, 1, 1), -1);
        CHECK.noState("a wall", () -> crossing.without(10, 0, 0));
        CHECK.same("cut then", Check.of(Scenes.BAY).without(10, 1, 1), -1);
        // less than now: a loose bound's plan is not the least one
        CartPaths loose = Check.of("row ..>..>;row ......;cart a at 5 1 to 0 0;cart b at 0 1 to 1 1;");
        CHECK.same("loose sum", loose.plan(15, 0), 15);
        CHECK.same("least sum", loose.plan(10, 0), 11);
        CHECK.same("four less", loose.without(15, 2, 0), -4);
    }

    private static void again() {
        CartPaths paths = Check.of(Scenes.CROSSING);
        CHECK.same("from the first time on", paths.again(10, 0), 5);
        CHECK.same("a follows b", paths.again(10, 1), 3);
        CHECK.same("from 2 on", paths.again(10, 2), 1);
        CHECK.same("all have ended", paths.again(10, 40), 0);
        CHECK.same("places stay", paths.cart(0, 0), 6);
        CHECK.same("the plan stays", paths.at(10, 0, 1), 6);
        // the loose plan's sum is told by the same bound
        CartPaths loose = Check.of(Scenes.LOOSE);
        CHECK.same("by 10", loose.again(10, 0), 5);
        CHECK.same("by 15", loose.again(15, 0), 6);
    }

    private static void among() {
        CartPaths paths = Check.of("row ...;row ...;cart a at 0 0 to 2 0;cart b at 1 0 to 0 0;");
        CHECK.same("round the other one", paths.among(0), 4);
        CHECK.same("a goal that is a place", paths.among(1), -1);
        CHECK.same("no others", Check.of("row ...;cart a at 0 0 to 2 0;").among(0), 2);
        CHECK.same("on its goal", Check.of(Scenes.STILL).among(0), 0);
        CHECK.same("shut in", Check.of("row ...;cart a at 0 0 to 2 0;cart b at 1 0 to 1 0;").among(0), -1);
        CHECK.noPlace("no cart", () -> paths.among(2));
        CHECK.noPlace("no cart below 0", () -> paths.among(-1));
    }

    private static void wrongNumbers(CartPaths paths) {
        for (int bad : new int[] {9, 31, -1, Integer.MIN_VALUE, Integer.MAX_VALUE}) {
            CHECK.noNumber("at", () -> paths.at(bad, 0, 0));
            CHECK.noNumber("move", () -> paths.move(bad, 0, 0));
            CHECK.noNumber("used", () -> paths.used(bad, 0, 0, false));
            CHECK.noNumber("busiest", () -> paths.busiest(bad));
            CHECK.noNumber("waits", () -> paths.waits(bad));
            CHECK.noNumber("worse", () -> paths.worse(bad));
            CHECK.noNumber("who", () -> paths.who(bad, 0, 0, 0));
            CHECK.noNumber("near", () -> paths.near(bad, 0, 1, false));
            CHECK.noNumber("without", () -> paths.without(bad, 1, 1));
            CHECK.noNumber("follows", () -> paths.follows(bad, 0, 1));
            CHECK.noNumber("shared", () -> paths.shared(bad, 0));
            CHECK.noNumber("ended", () -> paths.ended(bad, 0));
            CHECK.noNumber("way", () -> paths.way(bad, 0, 9));
            CHECK.noNumber("again", () -> paths.again(bad, 0));
        }
        for (int bad : new int[] {-1, 41, Integer.MIN_VALUE, Integer.MAX_VALUE}) {
            CHECK.noNumber("at's time", () -> paths.at(10, 0, bad));
            CHECK.noNumber("move's time", () -> paths.move(10, 0, bad));
            CHECK.noNumber("who's time", () -> paths.who(10, 0, 0, bad));
            CHECK.noNumber("ended's time", () -> paths.ended(10, bad));
            CHECK.noNumber("again's time", () -> paths.again(10, bad));
        }
        CHECK.noNumber("move from 40", () -> paths.move(10, 0, 40));
        CHECK.noNumber("near itself", () -> paths.near(10, 1, 1, false));
        CHECK.noNumber("follows itself", () -> paths.follows(10, 1, 1));
        for (int bad : new int[] {-1, 2, 3, Integer.MIN_VALUE, Integer.MAX_VALUE}) {
            CHECK.noPlace("at's cart", () -> paths.at(9, bad, 99));
            CHECK.noPlace("move's cart", () -> paths.move(9, bad, 99));
            CHECK.noPlace("near's cart", () -> paths.near(9, bad, 0, false));
            CHECK.noPlace("near's carts", () -> paths.near(9, bad, bad, false));
            CHECK.noPlace("near's other", () -> paths.near(9, 0, bad, false));
            CHECK.noPlace("follows's cart", () -> paths.follows(9, bad, 0));
            CHECK.noPlace("follows's carts", () -> paths.follows(9, bad, bad));
            CHECK.noPlace("follows's other", () -> paths.follows(9, 0, bad));
            CHECK.noPlace("way's cart", () -> paths.way(9, bad, 9));
        }
        for (int bad : new int[] {-1, 3, Integer.MIN_VALUE, Integer.MAX_VALUE}) {
            CHECK.noPlace("used's column", () -> paths.used(9, bad, 0, false));
            CHECK.noPlace("used's row", () -> paths.used(9, 0, bad, false));
            CHECK.noPlace("who's column", () -> paths.who(9, bad, 0, 99));
            CHECK.noPlace("who's row", () -> paths.who(9, 0, bad, 99));
            CHECK.noPlace("without's column", () -> paths.without(9, bad, 0));
            CHECK.noPlace("without's row", () -> paths.without(9, 0, bad));
        }
    }

    private static void withoutAPlan(CartPaths paths) {
        CHECK.noState("at", () -> paths.at(10, 0, 0));
        CHECK.noState("move", () -> paths.move(10, 0, 0));
        CHECK.noState("used", () -> paths.used(10, 0, 0, false));
        CHECK.noState("busiest", () -> paths.busiest(10));
        CHECK.noState("waits", () -> paths.waits(10));
        CHECK.noState("late", () -> paths.late(10, 0, 0, 0, 1));
        CHECK.noState("worse", () -> paths.worse(10));
        CHECK.noState("who", () -> paths.who(10, 0, 0, 0));
        CHECK.noState("near", () -> paths.near(10, 0, 1, false));
        CHECK.noState("without", () -> paths.without(10, 1, 0));
        CHECK.noState("follows", () -> paths.follows(10, 0, 1));
        CHECK.noState("shared", () -> paths.shared(10, 0));
        CHECK.noState("slack", () -> paths.slack(10, 0, 0));
        CHECK.noState("critical", () -> paths.critical(10, 1, false));
        CHECK.noState("ended", () -> paths.ended(10, 0));
        CHECK.noState("way", () -> paths.way(10, 0, 9));
        CHECK.noState("again", () -> paths.again(10, 0));
        CHECK.noState("write", () -> paths.write(10, 0));
        CHECK.noNumber("at no time", () -> paths.at(10, 0, 41));
        CHECK.noNumber("write at no time", () -> paths.write(10, 41));
        CHECK.noNumber("critical of none", () -> paths.critical(10, 0, false));
    }

    private static void noCarts(CartPaths paths) {
        CHECK.same("busiest", paths.busiest(10), -1);
        CHECK.same("waits", paths.waits(10), 0);
        CHECK.same("worse", paths.worse(10), Float.floatToIntBits(1.0f));
        CHECK.same("who", paths.who(10, 0, 0, 0), -1);
        CHECK.same("used", paths.used(10, 0, 0, false), 0);
        CHECK.same("without", paths.without(10, 0, 0), 0);
        CHECK.same("shared", paths.shared(10, -1), 0);
        CHECK.same("critical", paths.critical(10, 1, false), -1);
        CHECK.same("critical all", paths.critical(10, 1, true), -1);
        CHECK.same("ended", paths.ended(10, 0), 0);
        CHECK.same("again", paths.again(10, 7), 0);
        CHECK.noPlace("at", () -> paths.at(10, 0, 0));
    }
}
