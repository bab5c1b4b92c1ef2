/** Promises 25, 32 and 33: a cart stops, and who is late by that. */
public final class StopTest {
    private static final Check CHECK = new Check("stop");

    public static void main(String[] args) {
        lateAtACrossing();
        lateInARow();
        lateInARing();
        lateOnceOnly();
        slack();
        critical();
        wrongNumbers(Check.of(Scenes.CROSSING));
        CHECK.close();
    }

    private static void lateAtACrossing() {
        CartPaths paths = Check.of(Scenes.CROSSING);
        // b comes to 7 at 4, to 13 at 5; a to 7 at 5, to 8 at 6
        CHECK.same("b by itself", paths.late(10, 1, 1, 0, 3), 3);
        CHECK.same("a by b", paths.late(10, 0, 1, 0, 3), 3);
        // b stops in 7: it comes to 13 at 1 + 3 + 1
        CHECK.same("b by a stop in the middle", paths.late(10, 1, 1, 1, 3), 3);
        CHECK.same("a by that", paths.late(10, 0, 1, 1, 3), 3);
        CHECK.same("b has ended", paths.late(10, 1, 1, 2, 20), 0);
        CHECK.same("a does not mind then", paths.late(10, 0, 1, 2, 20), 0);
        // a waits once anyway: its first move comes at 2
        CHECK.same("a stop while it waits", paths.late(10, 0, 0, 0, 1), 0);
        CHECK.same("a stop longer than it waits", paths.late(10, 0, 0, 0, 2), 1);
        CHECK.same("a stop from 1 on", paths.late(10, 0, 0, 1, 1), 1);
        CHECK.same("a stop from 2 on", paths.late(10, 0, 0, 2, 1), 1);
        CHECK.same("a stop at its goal", paths.late(10, 0, 0, 3, 1), 0);
        CHECK.same("at the last time", paths.late(10, 0, 0, 40, 20), 0);
        CHECK.same("b is ahead of a", paths.late(10, 1, 0, 0, 20), 0);
        CHECK.same("the longest stop", paths.late(10, 0, 0, 0, 20), 19);
    }

    private static void lateInARow() {
        // a goes two cells behind b, so it can come nearer by one
        CartPaths paths = Check.of("row ......;cart a at 0 0 to 3 0;cart b at 2 0 to 5 0;");
        CHECK.same("b stops once", paths.late(10, 1, 1, 0, 1), 1);
        CHECK.same("a closes up", paths.late(10, 0, 1, 0, 1), 0);
        CHECK.same("a waits then", paths.late(10, 0, 1, 0, 2), 1);
        CHECK.same("b never minds a", paths.late(10, 1, 0, 0, 20), 0);
        // far beyond the last time
        CartPaths snake = Check.of(Scenes.SNAKE + "cart a at 0 0 to 0 5;");
        CHECK.same("late beyond 40", snake.late(10, 0, 0, 34, 20), 20);
    }

    private static void lateInARing() {
        CartPaths paths = Check.of(Scenes.RING);
        CHECK.same("all go at once", paths.plan(10, 0), 4);
        for (int stopped = 0; stopped < 4; stopped++) {
            for (int cart = 0; cart < 4; cart++) {
                CHECK.same("all wait for each", paths.late(10, cart, stopped, 0, 5), 5);
            }
        }
    }

    private static void lateOnceOnly() {
        // b leaves its goal for a and comes back; a stop of a makes b wait to come back
        CartPaths paths = Check.of(Scenes.BAY);
        CHECK.same("a by itself", paths.late(10, 0, 0, 0, 4), 4);
        CHECK.same("b comes back later", paths.late(10, 1, 0, 0, 4), 4);
        CHECK.same("a by b", paths.late(10, 0, 1, 0, 4), 4);
        CHECK.same("b by itself", paths.late(10, 1, 1, 0, 4), 5 - 1);
        CHECK.same("b in the bay", paths.late(10, 1, 1, 1, 4), 4);
        CHECK.same("a is gone then", paths.late(10, 0, 1, 1, 4), 0);
        // one that never moves is never late
        CartPaths still = Check.of("row ..;row ..;cart a at 0 0 to 1 0;cart b at 0 1 to 0 1;");
        CHECK.same("b stays", still.late(10, 1, 1, 0, 9), 0);
        CHECK.same("b stays whatever a does", still.late(10, 1, 0, 0, 9), 0);
    }

    private static void slack() {
        CartPaths paths = Check.of(Scenes.CROSSING);
        CHECK.same("each stop of b makes a late", paths.slack(10, 1, 0), 0);
        CHECK.same("in the middle too", paths.slack(10, 1, 1), 0);
        CHECK.same("b has ended", paths.slack(10, 1, 2), 20);
        CHECK.same("nobody waits for a", paths.slack(10, 0, 0), 20);
        CHECK.same("at the last time", paths.slack(10, 0, 40), 20);
        CartPaths row = Check.of("row ......;cart a at 0 0 to 3 0;cart b at 2 0 to 5 0;");
        CHECK.same("a can close up", row.slack(10, 1, 0), 1);
        CHECK.same("a can close up later", row.slack(10, 1, 1), 1);
        CHECK.same("nobody else", Check.of("row ..;cart a at 0 0 to 1 0;").slack(10, 0, 0), 20);
        CHECK.same("a ring has none", Check.of(Scenes.RING).slack(10, 2, 0), 0);
    }

    private static void critical() {
        CartPaths paths = Check.of(Scenes.CROSSING);
        CHECK.same("b makes both late", paths.critical(10, 3, false), 1);
        CHECK.same("by 6", paths.critical(10, 3, true), 6);
        CartPaths ring = Check.of(Scenes.RING);
        CHECK.same("of several the least", ring.critical(10, 20, false), 0);
        CHECK.same("by 80", ring.critical(10, 20, true), 80);
        CartPaths still = Check.of(Scenes.STILL);
        CHECK.same("nobody is late", still.critical(10, 1, false), 0);
        CHECK.same("by 0", still.critical(10, 1, true), 0);
    }

    private static void wrongNumbers(CartPaths paths) {
        for (int bad : new int[] {9, 31, Integer.MIN_VALUE, Integer.MAX_VALUE}) {
            CHECK.noNumber("late's bound", () -> paths.late(bad, 0, 0, 0, 1));
            CHECK.noNumber("slack's bound", () -> paths.slack(bad, 0, 0));
            CHECK.noNumber("critical's bound", () -> paths.critical(bad, 1, false));
        }
        for (int bad : new int[] {-1, 41, Integer.MIN_VALUE, Integer.MAX_VALUE}) {
            CHECK.noNumber("late's time", () -> paths.late(10, 0, 0, bad, 1));
            CHECK.noNumber("slack's time", () -> paths.slack(10, 0, bad));
        }
        for (int bad : new int[] {-1, 0, 21, Integer.MIN_VALUE, Integer.MAX_VALUE}) {
            CHECK.noNumber("late's n", () -> paths.late(10, 0, 0, 0, bad));
            CHECK.noNumber("critical's n", () -> paths.critical(10, bad, true));
        }
        for (int bad : new int[] {-1, 2, Integer.MIN_VALUE, Integer.MAX_VALUE}) {
            CHECK.noPlace("late's cart", () -> paths.late(9, bad, 0, 99, 99));
            CHECK.noPlace("the stopped cart", () -> paths.late(9, 0, bad, 99, 99));
            CHECK.noPlace("slack's cart", () -> paths.slack(9, bad, 99));
        }
    }
}
