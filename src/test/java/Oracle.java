import java.util.ArrayList;
import java.util.Arrays;
import java.util.HashSet;
import java.util.List;
import java.util.Set;
import java.util.regex.Matcher;
import java.util.regex.Pattern;

/** A second, plain reading of the document, as slow as it likes, to compare answers with. */
final class Oracle {
    static final int NONE = -1;
    static final int[] DX = {0, 1, 0, -1, 0};
    static final int[] DY = {-1, 0, 1, 0, 0};

    int columns;
    int rows;
    int[] sorts = new int[36];
    List<String> names = new ArrayList<>();
    List<Integer> places = new ArrayList<>();
    List<Integer> goals = new ArrayList<>();

    // ---- the text

    private String text;
    private int pos;

    /** The fault; -1 without one. */
    int parse(String told) {
        text = told;
        pos = 0;
        try {
            while (!blankEnd()) {
                line();
            }
            return rows == 0 ? text.length() : NONE;
        } catch (IllegalStateException e) {
            return Integer.parseInt(e.getMessage());
        }
    }

    private boolean blankEnd() {
        take("[\\t\\n ]*");
        return pos == text.length();
    }

    private String take(String form) {
        Matcher matcher = Pattern.compile(form, Pattern.DOTALL).matcher(text).region(pos, text.length());
        if (!matcher.lookingAt()) {
            return "";
        }
        pos = matcher.end();
        return matcher.group();
    }

    /** The next sign or word behind blanks, which must be of the form and good. */
    private String token(String form, java.util.function.Predicate<String> good) {
        take("[\\t\\n ]*");
        int start = pos;
        String token = take(form);
        if (token.isEmpty() || !good.test(token)) {
            throw new IllegalStateException("" + start);
        }
        return token;
    }

    private void line() {
        String word = token("[a-z]+", w -> (w.equals("row") && rows < 6 && names.isEmpty())
                || (w.equals("cart") && rows > 0 && names.size() < 5));
        if (word.equals("row")) {
            String cells = token("[.#^>v<]+", c -> rows == 0 ? c.length() <= 6 : c.length() == columns);
            columns = cells.length();
            for (int x = 0; x < columns; x++) {
                sorts[6 * rows + x] = ".#^>v<".indexOf(cells.charAt(x));
            }
            rows++;
        } else {
            Set<String> reserved = Set.of("row", "cart", "at", "to");
            String name = token("[a-z]+", n -> n.length() <= 6 && !reserved.contains(n) && !names.contains(n));
            token("[a-z]+", w -> w.equals("at"));
            int place = point(places);
            token("[a-z]+", w -> w.equals("to"));
            int goal = point(goals);
            names.add(name);
            places.add(place);
            goals.add(goal);
        }
        token(";", s -> true);
    }

    private int point(List<Integer> others) {
        int x = Integer.parseInt(token("[0-9]+", n -> n.length() == 1 && Integer.parseInt(n) < columns));
        String y = token("[0-9]+", n -> n.length() == 1 && Integer.parseInt(n) < rows
                && sorts[6 * Integer.parseInt(n) + x] != 1 && !others.contains(6 * Integer.parseInt(n) + x));
        return 6 * Integer.parseInt(y) + x;
    }

    // ---- ways

    /** The cell to which a move leads; -1 where it may not go. */
    int go(int cell, int move) {
        if (move == 4) {
            return cell;
        }
        int x = cell % 6 + DX[move];
        int y = cell / 6 + DY[move];
        if (x < 0 || x >= columns || y < 0 || y >= rows || sorts[6 * y + x] == 1) {
            return NONE;
        }
        return sorts[cell] == 0 || sorts[cell] == 2 + move ? 6 * y + x : NONE;
    }

    static String cellAt(int cell, int time) {
        return "cell " + cell + " at " + time;
    }

    static String moveAt(int from, int to, int time) {
        return "move " + from + " to " + to + " at " + time;
    }

    private boolean may(Set<String> forbidden, int from, int move, int time) {
        int to = go(from, move);
        return to != NONE && !forbidden.contains(cellAt(to, time)) && !forbidden.contains(moveAt(from, to, time));
    }

    /** The best way by what is forbidden; null: none. */
    int[] bestWay(int place, int goal, Set<String> forbidden) {
        for (int cost = 0; cost <= 40; cost++) {
            boolean[][] leads = leads(goal, cost, forbidden);
            if (leads[0][place] && !forbidden.contains(cellAt(place, 0))) {
                int[] way = new int[41];
                way[0] = place;
                for (int time = 1; time <= 40; time++) {
                    for (int move = 4; move >= 0; move--) {
                        int to = go(way[time - 1], move);
                        if (may(forbidden, way[time - 1], move, time) && leads[time][to]) {
                            way[time] = to;
                        }
                    }
                }
                return way;
            }
        }
        return null;
    }

    /** By time and cell: whether one can be on the goal from the time cost on till 40. */
    private boolean[][] leads(int goal, int cost, Set<String> forbidden) {
        boolean[][] leads = new boolean[41][36];
        leads[40][goal] = true;
        for (int time = 39; time >= 0; time--) {
            for (int cell = 0; cell < 36; cell++) {
                for (int move = 0; move < 5; move++) {
                    boolean allowed = time < cost || cell == goal;
                    if (allowed && may(forbidden, cell, move, time + 1) && leads[time + 1][go(cell, move)]) {
                        leads[time][cell] = true;
                    }
                }
            }
        }
        return leads;
    }

    static int costOf(int[] way, int goal) {
        int cost = 40;
        while (cost > 0 && way[cost - 1] == goal) {
            cost--;
        }
        return cost;
    }

    int far(int from, int to) {
        int[] away = new int[36];
        Arrays.fill(away, 99);
        away[from] = 0;
        for (int round = 0; round < 40; round++) {
            for (int cell = 0; cell < 36; cell++) {
                for (int move = 0; move < 4 && away[cell] < 99; move++) {
                    int next = go(cell, move);
                    if (next != NONE) {
                        away[next] = Math.min(away[next], away[cell] + 1);
                    }
                }
            }
        }
        return away[to] == 99 || sorts[from] == 1 ? NONE : away[to];
    }

    int reach(int cart) {
        int total = 0;
        for (int cell = 0; cell < 36; cell++) {
            total += far(places.get(cart), cell) == NONE ? 0 : 1;
        }
        return total;
    }

    /** All clashes as rows of time, sort, lesser and other cart, the first one first. */
    static List<int[]> clashes(List<int[]> ways) {
        List<int[]> all = new ArrayList<>();
        for (int time = 0; time <= 40; time++) {
            for (int sort = 0; sort < 2; sort++) {
                for (int a = 0; a < ways.size(); a++) {
                    for (int b = a + 1; b < ways.size(); b++) {
                        int[] p = ways.get(a);
                        int[] q = ways.get(b);
                        boolean meet = p[time] == q[time];
                        boolean swap = time > 0 && !meet && p[time] == q[time - 1] && q[time] == p[time - 1];
                        if (sort == 0 ? meet : swap) {
                            all.add(new int[] {time, sort, a, b});
                        }
                    }
                }
            }
        }
        return all;
    }

    /** The ways of all carts alone, null for those without. */
    List<int[]> alone() {
        List<int[]> ways = new ArrayList<>();
        for (int cart = 0; cart < names.size(); cart++) {
            ways.add(bestWay(places.get(cart), goals.get(cart), Set.of()));
        }
        return ways;
    }

    int sum(List<int[]> ways) {
        int sum = 0;
        for (int cart = 0; cart < ways.size(); cart++) {
            sum += costOf(ways.get(cart), goals.get(cart));
        }
        return sum;
    }

    int among(int cart) {
        Set<String> forbidden = new HashSet<>();
        for (int other = 0; other < names.size(); other++) {
            for (int time = 0; time <= 40 && other != cart; time++) {
                forbidden.add(cellAt(places.get(other), time));
            }
        }
        int[] way = bestWay(places.get(cart), goals.get(cart), forbidden);
        return way == null ? NONE : costOf(way, goals.get(cart));
    }

    // ---- the tree

    static final class Branch {
        int from = NONE;
        int cart = NONE;
        int sum;
        boolean split;
        List<int[]> ways;
        List<int[]> clashes;
        List<Set<String>> forbidden = new ArrayList<>();

        int forbiddenInAll() {
            int total = 0;
            for (Set<String> each : forbidden) {
                total += each.size();
            }
            return total;
        }
    }

    static final class Grown {
        List<Branch> branches = new ArrayList<>();
        int splits;
        int low = NONE;
        int plan = NONE;
        boolean cut;

        List<int[]> ways() {
            return plan == NONE ? null : branches.get(plan).ways;
        }
    }

    Grown grow(int bound) {
        Grown tree = new Grown();
        Branch root = new Branch();
        root.ways = alone();
        if (root.ways.contains(null)) {
            return tree;
        }
        root.sum = sum(root.ways);
        root.clashes = clashes(root.ways);
        for (int cart = 0; cart < names.size(); cart++) {
            root.forbidden.add(new HashSet<>());
        }
        tree.branches.add(root);
        while (true) {
            int chosen = choose(tree, bound);
            if (chosen == NONE) {
                return tree;
            }
            Branch branch = tree.branches.get(chosen);
            if (branch.clashes.isEmpty()) {
                tree.plan = chosen;
                return tree;
            }
            if (tree.branches.size() >= 300) {
                tree.cut = true;
                return tree;
            }
            branch.split = true;
            tree.splits++;
            int[] first = branch.clashes.get(0);
            child(tree, chosen, first, first[2]);
            child(tree, chosen, first, first[3]);
        }
    }

    private static int choose(Grown tree, int bound) {
        int low = Integer.MAX_VALUE;
        for (Branch each : tree.branches) {
            low = each.split ? low : Math.min(low, each.sum);
        }
        int best = NONE;
        for (int k = 0; k < tree.branches.size(); k++) {
            Branch each = tree.branches.get(k);
            if (!each.split && each.sum * 10 <= bound * low) {
                Branch other = best == NONE ? null : tree.branches.get(best);
                if (other == null || each.clashes.size() < other.clashes.size()
                        || (each.clashes.size() == other.clashes.size() && each.sum < other.sum)) {
                    best = k;
                }
            }
        }
        tree.low = best == NONE ? tree.low : low;
        return best;
    }

    private void child(Grown tree, int parent, int[] clash, int cart) {
        Branch above = tree.branches.get(parent);
        Branch branch = new Branch();
        branch.from = parent;
        branch.cart = cart;
        for (Set<String> each : above.forbidden) {
            branch.forbidden.add(new HashSet<>(each));
        }
        int[] old = above.ways.get(cart);
        int time = clash[0];
        branch.forbidden.get(cart).add(clash[1] == 0 ? cellAt(old[time], time)
                : moveAt(old[time - 1], old[time], time));
        int[] way = bestWay(places.get(cart), goals.get(cart), branch.forbidden.get(cart));
        if (way != null) {
            branch.ways = new ArrayList<>(above.ways);
            branch.ways.set(cart, way);
            branch.sum = sum(branch.ways);
            branch.clashes = clashes(branch.ways);
            tree.branches.add(branch);
        }
    }

    // ---- by turns

    List<List<Integer>> orders() {
        List<List<Integer>> all = new ArrayList<>();
        extend(new ArrayList<>(), all);
        return all;
    }

    private void extend(List<Integer> begun, List<List<Integer>> all) {
        if (begun.size() == names.size()) {
            all.add(new ArrayList<>(begun));
            return;
        }
        for (int cart = 0; cart < names.size(); cart++) {
            if (!begun.contains(cart)) {
                begun.add(cart);
                extend(begun, all);
                begun.remove(begun.size() - 1);
            }
        }
    }

    /** The ways in an order, by cart; null: it fails. */
    List<int[]> byTurns(List<Integer> order) {
        Set<String> forbidden = new HashSet<>();
        int[][] ways = new int[names.size()][];
        for (int cart : order) {
            int[] way = bestWay(places.get(cart), goals.get(cart), forbidden);
            if (way == null) {
                return null;
            }
            ways[cart] = way;
            for (int time = 0; time <= 40; time++) {
                forbidden.add(cellAt(way[time], time));
                if (time > 0 && way[time] != way[time - 1]) {
                    forbidden.add(moveAt(way[time], way[time - 1], time));
                }
            }
        }
        return Arrays.asList(ways);
    }

    // ---- a stop

    /** How late each cart is: the least times that keep all rules, found by raising them until they do. */
    static int[] late(List<int[]> ways, int stopped, int stopTime, int n) {
        int carts = ways.size();
        List<List<int[]>> visits = new ArrayList<>();
        for (int[] way : ways) {
            List<int[]> mine = new ArrayList<>();
            for (int time = 0; time <= 40; time++) {
                if (time == 0 || way[time] != way[time - 1]) {
                    mine.add(new int[] {way[time], time, time});
                }
            }
            visits.add(mine);
        }
        List<int[]> stoppedVisits = visits.get(stopped);
        for (int k = 1; k < stoppedVisits.size(); k++) {
            if (stoppedVisits.get(k)[1] > stopTime) {
                stoppedVisits.get(k)[2] = Math.max(stoppedVisits.get(k)[2], stopTime + n + 1);
                break;
            }
        }
        boolean changed = true;
        while (changed) {
            changed = false;
            for (int cart = 0; cart < carts; cart++) {
                for (int k = 1; k < visits.get(cart).size(); k++) {
                    int[] visit = visits.get(cart).get(k);
                    int least = Math.max(visit[2], visits.get(cart).get(k - 1)[2] + 1);
                    for (int other = 0; other < carts; other++) {
                        List<int[]> theirs = visits.get(other);
                        for (int j = 0; other != cart && j + 1 < theirs.size(); j++) {
                            if (theirs.get(j)[0] == visit[0] && theirs.get(j)[1] < visit[1]) {
                                least = Math.max(least, theirs.get(j + 1)[2]);
                            }
                        }
                    }
                    changed |= least > visit[2];
                    visit[2] = least;
                }
            }
        }
        int[] late = new int[carts];
        for (int cart = 0; cart < carts; cart++) {
            int[] last = visits.get(cart).get(visits.get(cart).size() - 1);
            late[cart] = last[2] - last[1];
        }
        return late;
    }

    Oracle copy() {
        Oracle other = new Oracle();
        other.columns = columns;
        other.rows = rows;
        other.sorts = sorts.clone();
        other.names = new ArrayList<>(names);
        other.places = new ArrayList<>(places);
        other.goals = new ArrayList<>(goals);
        return other;
    }
}
