import java.util.ArrayList;
import java.util.HashSet;
import java.util.List;
import java.util.Random;
import java.util.Set;

/** Compares all that is told of one plan with the plain second reading. */
final class PlanLook {
    private final Check check;
    private final CartPaths paths;
    private final Oracle oracle;
    private final int bound;
    private final List<int[]> ways;
    private final String text;
    private final Random random;
    private final int carts;

    PlanLook(Check check, CartPaths paths, Oracle oracle, int bound, List<int[]> ways, String text, Random random) {
        this.check = check;
        this.paths = paths;
        this.oracle = oracle;
        this.bound = bound;
        this.ways = ways;
        this.text = text;
        this.random = random;
        carts = ways.size();
    }

    private void same(String what, long got, long due) {
        check.same(text + " by " + bound + ": " + what, got, due);
    }

    private int cost(int cart) {
        return Oracle.costOf(ways.get(cart), oracle.goals.get(cart));
    }

    void look() {
        lookAtWays();
        lookAtCells();
        lookAtPairs();
        lookAtStops();
        lookAtTimes();
        lookAtSupposed();
    }

    private void lookAtWays() {
        int waits = 0;
        int end = -1;
        for (int cart = 0; cart < carts; cart++) {
            int[] way = ways.get(cart);
            Set<Integer> unlike = new HashSet<>();
            int moves = 0;
            int first = -1;
            for (int time = 0; time <= 40; time++) {
                same("at", paths.at(bound, cart, time), way[time]);
                unlike.add(way[time]);
                first = first < 0 && way[time] == oracle.goals.get(cart) ? time : first;
                if (time < 40) {
                    int move = paths.move(bound, cart, time);
                    same("move", oracle.go(way[time], move), way[time + 1]);
                    moves += move == 4 ? 0 : 1;
                    waits += move == 4 && time < cost(cart) ? 1 : 0;
                }
            }
            end = Math.max(end, cost(cart));
            int[] alone = oracle.alone().get(cart);
            same("way 0", paths.way(bound, cart, 0), cost(cart));
            same("way 1", paths.way(bound, cart, 1), cost(cart) - Oracle.costOf(alone, oracle.goals.get(cart)));
            same("way 2", paths.way(bound, cart, 2), unlike.size());
            same("way 3", paths.way(bound, cart, 3), moves);
            same("way 4", paths.way(bound, cart, 4), first);
        }
        same("waits", paths.waits(bound), waits);
        same("end", paths.plan(bound, 3), end);
        int alone = oracle.sum(oracle.alone());
        float worse = alone == 0 ? 1.0f : (float) oracle.sum(ways) / (float) alone;
        same("worse", paths.worse(bound), Float.floatToIntBits(worse));
    }

    private void lookAtCells() {
        int best = -1;
        int most = 0;
        List<Integer> shared = new ArrayList<>();
        for (int cell = 0; cell < 36; cell++) {
            int users = 0;
            int leaving = 0;
            for (int[] way : ways) {
                boolean in = false;
                for (int time = 0; time <= 40; time++) {
                    in |= way[time] == cell;
                    leaving += time < 40 && way[time] == cell && way[time + 1] != cell ? 1 : 0;
                }
                users += in ? 1 : 0;
            }
            if (users > most) {
                most = users;
                best = cell;
            }
            if (users >= 2) {
                shared.add(cell);
            }
            if (cell % 6 < oracle.columns && cell / 6 < oracle.rows) {
                same("used", paths.used(bound, cell % 6, cell / 6, false), users);
                same("next", paths.used(bound, cell % 6, cell / 6, true), leaving);
            }
        }
        same("busiest", paths.busiest(bound), best);
        same("shared", paths.shared(bound, -1), shared.size());
        for (int k = 0; k <= shared.size(); k++) {
            same("shared " + k, paths.shared(bound, k), k < shared.size() ? shared.get(k) : -1);
        }
    }

    private void lookAtPairs() {
        for (int a = 0; a < carts; a++) {
            for (int b = 0; b < carts; b++) {
                if (a != b) {
                    lookAtPair(a, b);
                }
            }
        }
    }

    private void lookAtPair(int a, int b) {
        int[] p = ways.get(a);
        int[] q = ways.get(b);
        int least = 99;
        int first = -1;
        int follows = 0;
        for (int time = 0; time <= 40; time++) {
            int apart = Math.abs(p[time] % 6 - q[time] % 6) + Math.abs(p[time] / 6 - q[time] / 6);
            if (apart < least) {
                least = apart;
                first = time;
            }
            if (time > 0 && p[time] != p[time - 1] && q[time] != q[time - 1] && p[time] == q[time - 1]) {
                follows++;
            }
        }
        same("near", paths.near(bound, a, b, false), least);
        same("near when", paths.near(bound, a, b, true), first);
        same("follows", paths.follows(bound, a, b), follows);
    }

    private void lookAtStops() {
        for (int k = 0; k < 12 && carts > 0; k++) {
            int stopped = random.nextInt(carts);
            int time = random.nextInt(k < 8 ? 8 : 41);
            int n = 1 + random.nextInt(20);
            int[] late = Oracle.late(ways, stopped, time, n);
            for (int cart = 0; cart < carts; cart++) {
                same("late", paths.late(bound, cart, stopped, time, n), late[cart]);
            }
            int slack = 0;
            for (int m = 1; m <= 20; m++) {
                int[] delays = Oracle.late(ways, stopped, time, m);
                int others = -delays[stopped];
                for (int delay : delays) {
                    others += delay;
                }
                slack = others == 0 ? m : slack;
            }
            same("slack", paths.slack(bound, stopped, time), slack);
        }
        int n = 1 + random.nextInt(20);
        int worst = -1;
        int most = -1;
        for (int cart = 0; cart < carts; cart++) {
            int sum = 0;
            for (int delay : Oracle.late(ways, cart, 0, n)) {
                sum += delay;
            }
            if (sum > most) {
                most = sum;
                worst = cart;
            }
        }
        same("critical", paths.critical(bound, n, false), worst);
        same("critical all", paths.critical(bound, n, true), most);
    }

    private void lookAtTimes() {
        for (int time = 0; time <= 40; time += 1 + random.nextInt(6)) {
            int ended = 0;
            StringBuilder due = new StringBuilder();
            for (int cart = 0; cart < carts; cart++) {
                ended |= cost(cart) <= time ? 1 << cart : 0;
            }
            same("ended", paths.ended(bound, time), ended);
            for (int y = 0; y < oracle.rows; y++) {
                for (int x = 0; x < oracle.columns; x++) {
                    int who = -1;
                    for (int cart = carts - 1; cart >= 0; cart--) {
                        who = ways.get(cart)[time] == 6 * y + x ? cart : who;
                    }
                    same("who", paths.who(bound, x, y, time), who);
                    due.append(who < 0 ? ".#^>v<".charAt(oracle.sorts[6 * y + x]) : (char) ('0' + who));
                }
                due.append('\n');
            }
            same("write", paths.write(bound, time), due.length());
            same("count 6", paths.count(6), due.length());
            for (int k = 0; k < due.length(); k++) {
                same("octet", paths.octet(k), due.charAt(k));
            }
            same("octet behind", paths.octet(due.length()), -1);
        }
    }

    private void lookAtSupposed() {
        int time = random.nextInt(12);
        Oracle later = oracle.copy();
        for (int cart = 0; cart < carts; cart++) {
            later.places.set(cart, ways.get(cart)[time]);
        }
        List<int[]> again = later.grow(bound).ways();
        same("again", paths.again(bound, time), again == null ? -1 : later.sum(again));
        for (int k = 0; k < 3; k++) {
            int cell = 6 * random.nextInt(oracle.rows) + random.nextInt(oracle.columns);
            if (oracle.sorts[cell] == 1 || oracle.places.contains(cell) || oracle.goals.contains(cell)) {
                check.noState(text + " without", () -> paths.without(bound, cell % 6, cell / 6));
            } else {
                Oracle walled = oracle.copy();
                walled.sorts[cell] = 1;
                List<int[]> other = walled.grow(bound).ways();
                same("without", paths.without(bound, cell % 6, cell / 6),
                        other == null ? -1 : walled.sum(other) - oracle.sum(ways));
            }
        }
    }
}
