import java.util.ArrayList;
import java.util.List;
import java.util.Random;

/** Many scenes, made by fixed seeds: each answer is compared with the plain second reading. */
public final class OracleTest {
    private final Check check;
    private final Random random;
    private final String text;
    private final CartPaths paths;
    private final Oracle oracle;

    private OracleTest(Check check, long seed) {
        this.check = check;
        random = new Random(seed);
        text = scene(random);
        paths = Check.of(text);
        oracle = new Oracle();
        same("oracle's fault", oracle.parse(text), -1);
    }

    public static void main(String[] args) {
        int seeds = args.length > 0 ? Integer.parseInt(args[0]) : 60;
        Check check = new Check("oracle");
        int cuts = 0;
        int plans = 0;
        int without = 0;
        for (int seed = 0; seed < seeds; seed++) {
            OracleTest test = new OracleTest(check, seed);
            test.lookAtAll();
            int sum = test.paths.plan(10, 0);
            cuts += sum == -2 ? 1 : 0;
            without += sum == -1 ? 1 : 0;
            plans += sum >= 0 ? 1 : 0;
            for (int k = 0; k < 3; k++) {
                test.act();
            }
            test.lookAtAll();
        }
        System.out.println("oracle: " + plans + " plans, " + without + " without, " + cuts + " cut");
        check.close();
    }

    /** A scene's text: one in three is narrow, so that carts clash much. */
    static String scene(Random random) {
        while (true) {
            int columns = 1 + random.nextInt(6);
            int rows = 1 + random.nextInt(random.nextInt(3) == 0 ? 2 : 6);
            int carts = random.nextInt(6);
            int walls = random.nextInt(4);
            int arrows = random.nextInt(3);
            StringBuilder text = new StringBuilder();
            List<String> free = new ArrayList<>();
            for (int y = 0; y < rows; y++) {
                text.append("row ");
                for (int x = 0; x < columns; x++) {
                    int draw = random.nextInt(10);
                    char sign = draw < walls ? '#' : draw < walls + arrows ? "^>v<".charAt(random.nextInt(4)) : '.';
                    text.append(sign);
                    if (sign != '#') {
                        free.add(x + " " + y);
                    }
                }
                text.append(';');
            }
            if (free.size() >= carts) {
                List<String> places = new ArrayList<>(free);
                List<String> goals = new ArrayList<>(free);
                for (int cart = 0; cart < carts; cart++) {
                    text.append("cart ").append((char) ('a' + cart));
                    text.append(" at ").append(places.remove(random.nextInt(places.size())));
                    text.append(" to ").append(goals.remove(random.nextInt(goals.size()))).append(';');
                }
                return text.toString();
            }
        }
    }

    private void same(String what, long got, long due) {
        check.same(text + " " + what, got, due);
    }

    private static int orNone(int[] way, int time) {
        return way == null ? -1 : way[time];
    }

    private void act() {
        int kind = random.nextInt(3);
        int cell = 6 * random.nextInt(oracle.rows) + random.nextInt(oracle.columns);
        int carts = oracle.names.size();
        if (kind == 0) {
            int sort = random.nextInt(6);
            boolean taken = oracle.places.contains(cell) || oracle.goals.contains(cell);
            if (sort != 1 || !taken) {
                same("tell", paths.tell(cell % 6, cell / 6, sort), oracle.sorts[cell]);
                oracle.sorts[cell] = sort;
            }
        } else if (kind == 1 && carts > 0) {
            int cart = random.nextInt(carts);
            if (oracle.sorts[cell] != 1 && !oracle.goals.contains(cell)) {
                same("goal", paths.goal(cart, cell % 6, cell / 6), oracle.goals.set(cart, cell));
            }
        } else if (carts > 1) {
            int cart = random.nextInt(carts);
            int other = (cart + 1 + random.nextInt(carts - 1)) % carts;
            paths.change(cart, other);
            oracle.goals.set(cart, oracle.goals.set(other, oracle.goals.get(cart)));
        }
    }

    private void lookAtAll() {
        lookAtScene();
        lookAtAlone();
        for (int bound : new int[] {10, 10 + random.nextInt(21), 30}) {
            lookAtTree(bound);
        }
        lookAtTurns();
    }

    private void lookAtScene() {
        int free = 0;
        for (int y = 0; y < oracle.rows; y++) {
            for (int x = 0; x < oracle.columns; x++) {
                same("cell", paths.cell(x, y), oracle.sorts[6 * y + x]);
                free += oracle.sorts[6 * y + x] == 1 ? 0 : 1;
            }
        }
        for (int cart = 0; cart < oracle.names.size(); cart++) {
            same("place", paths.cart(cart, 0), oracle.places.get(cart));
            same("goal", paths.cart(cart, 1), oracle.goals.get(cart));
            same("name", paths.name(cart, 0), oracle.names.get(cart).charAt(0));
        }
        same("columns", paths.count(0), oracle.columns);
        same("rows", paths.count(1), oracle.rows);
        same("carts", paths.count(2), oracle.names.size());
        same("free", paths.count(3), free);
    }

    private void lookAtAlone() {
        List<int[]> ways = oracle.alone();
        for (int cart = 0; cart < ways.size(); cart++) {
            int[] way = ways.get(cart);
            same("cost", paths.cost(cart), way == null ? -1 : Oracle.costOf(way, oracle.goals.get(cart)));
            for (int time = 0; time <= 40; time++) {
                same("alone", paths.alone(cart, time), orNone(way, time));
            }
            same("reach", paths.reach(cart), oracle.reach(cart));
            same("among", paths.among(cart), oracle.among(cart));
        }
        for (int k = 0; k < 20; k++) {
            int x = random.nextInt(oracle.columns);
            int y = random.nextInt(oracle.rows);
            int toX = random.nextInt(oracle.columns);
            int toY = random.nextInt(oracle.rows);
            same("far", paths.far(x, y, toX, toY), oracle.far(6 * y + x, 6 * toY + toX));
        }
        if (ways.contains(null)) {
            check.noState(text + " clash", () -> paths.clash(0));
            same("sum alone", paths.count(7), -1);
            return;
        }
        same("sum alone", paths.count(7), oracle.sum(ways));
        List<int[]> clashes = Oracle.clashes(ways);
        same("clashes", paths.clash(0), clashes.size());
        for (int what = 1; what <= 4; what++) {
            same("clash " + what, paths.clash(what), clashes.isEmpty() ? -1 : clashes.get(0)[what - 1]);
        }
    }

    private void lookAtTree(int bound) {
        Oracle.Grown tree = oracle.grow(bound);
        List<int[]> ways = tree.ways();
        String by = "by " + bound + ": ";
        same(by + "sum", paths.plan(bound, 0), ways != null ? oracle.sum(ways) : tree.cut ? -2 : -1);
        same(by + "nodes", paths.plan(bound, 1), tree.branches.size());
        same(by + "splits", paths.plan(bound, 2), tree.splits);
        same(by + "low", paths.plan(bound, 4), tree.low);
        same(by + "plan", paths.plan(bound, 5), tree.plan);
        for (int k = 0; k < tree.branches.size(); k++) {
            Oracle.Branch branch = tree.branches.get(k);
            same(by + "node from", paths.node(bound, k, 0), branch.from);
            same(by + "node sum", paths.node(bound, k, 1), branch.sum);
            same(by + "node clashes", paths.node(bound, k, 2), branch.clashes.size());
            same(by + "node cart", paths.node(bound, k, 3), branch.cart);
            same(by + "node forbidden", paths.node(bound, k, 4), branch.forbiddenInAll());
            same(by + "node split", paths.node(bound, k, 5), branch.split ? 1 : 0);
        }
        check.noElement(by + "a node more", () -> paths.node(bound, tree.branches.size(), 0));
        if (ways == null) {
            check.noState(text + by + "waits", () -> paths.waits(bound));
            same(by + "end", paths.plan(bound, 3), -1);
        } else {
            new PlanLook(check, paths, oracle, bound, ways, text, random).look();
        }
    }

    private void lookAtTurns() {
        List<List<Integer>> orders = oracle.orders();
        same("orders", paths.count(4), orders.size());
        int best = -1;
        int bestSum = -1;
        for (int order = 0; order < orders.size(); order++) {
            List<int[]> ways = oracle.byTurns(orders.get(order));
            int sum = ways == null ? -1 : oracle.sum(ways);
            same("by turns", paths.byTurns(order), sum);
            if (sum >= 0 && (bestSum < 0 || sum < bestSum)) {
                best = order;
                bestSum = sum;
            }
            for (int k = 0; k < orders.get(order).size(); k++) {
                same("ordered", paths.ordered(order, k), orders.get(order).get(k));
                int cart = k;
                int time = random.nextInt(41);
                int told = order;
                if (ways == null) {
                    check.noState(text + " turned", () -> paths.turned(told, cart, time));
                } else {
                    same("turned", paths.turned(order, cart, time), ways.get(cart)[time]);
                }
            }
        }
        same("best order", paths.bestOrder(false), best);
        same("best sum", paths.bestOrder(true), bestSum);
    }
}
