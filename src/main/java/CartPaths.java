import java.util.Arrays;
import java.util.NoSuchElementException;

/** Carts on a grid of aisles: a text tells them, trees of clashes and turns plan their ways. */
public final class CartPaths {
    public static final int NONE = -1;

    private static final int CUT = -2;
    private static final int SIDE = 6;
    private static final int CELLS = 36;
    private static final int MAX_CARTS = 5;
    private static final int MAX_NAME = 6;
    private static final int MAX_TEXT = 400;
    private static final int FEED = 20;
    private static final int MAX_ACTS = 16;
    private static final int LAST = 40;
    private static final int TIMES = 41;
    private static final int MAX_STOP = 20;
    private static final int LEAST_BOUND = 10;
    private static final int MOST_BOUND = 30;
    private static final int MAX_NODES = 300;
    /** A split with one node fewer than the most still brings two. */
    private static final int NODE_ROOM = 301;

    private static final int FREE = 0;
    private static final int WALL = 1;
    private static final int ONE_WAY = 2;
    private static final int SORTS = 6;
    private static final int DIRECTIONS = 4;
    private static final int STAY = 4;
    private static final int MEET = 0;
    private static final int SWAP = 1;
    private static final int NEW_LINE = 10;
    private static final int ONE_AS_FLOAT = 0x3f800000;
    /** The sign of each sort, at the sort's number. */
    private static final String SIGNS = ".#^>v<";
    /** How many columns, rows, cells' numbers a move goes on, at the move's number. */
    private static final int[] ACROSS = {0, 1, 0, -1};
    private static final int[] DOWN = {-1, 0, 1, 0};
    private static final int[] AHEAD = {-6, 1, 6, -1};
    private static final int[] FACTORIALS = {1, 1, 2, 6, 24, 120};

    private final TextReader reader = new TextReader();
    private final Scene scene = new Scene();
    /** What would be, asked by without and again; it never stays. */
    private final Scene draft = new Scene();
    private final Acts acts = new Acts();
    private final Search search = new Search();
    private final Ways aloneWays = new Ways();
    private int aloneVersion = NONE;
    /** One tree a bound, made when it is first asked for and built anew when the scene is another. */
    private final Tree[] trees = new Tree[MOST_BOUND - LEAST_BOUND + 1];
    private final Tree supposed = new Tree();
    private final Turns turns = new Turns();
    private final Stop stop = new Stop();
    private final int[] written = new int[SIDE * (SIDE + 1)];
    private int writtenLength = 0;
    /** Counts what changed the scene, so that older answers are known as such. */
    private int version = 0;

    public CartPaths() {
    }

    // ---- the text

    public int feed(int a, int b, int c, int d, int e) {
        if (reader.length > MAX_TEXT - FEED) {
            return NONE;
        }
        reader.append(a);
        reader.append(b);
        reader.append(c);
        reader.append(d);
        reader.append(e);
        return reader.length;
    }

    public boolean end(int n) {
        if (n < 0 || n > reader.length) {
            return false;
        }
        reader.length = n;
        return true;
    }

    public int read() throws IllegalArgumentException {
        reader.parse();
        reader.length = 0;
        if (reader.fault != NONE) {
            throw new IllegalArgumentException();
        }
        scene.copyFrom(reader.scene);
        acts.clear();
        sceneChanged();
        return scene.carts;
    }

    public int fault() {
        return reader.fault;
    }

    private void sceneChanged() {
        scene.refresh();
        version++;
    }

    // ---- what there is

    private int needCell(int x, int y) {
        if (!scene.has(x, y)) {
            throw new IndexOutOfBoundsException();
        }
        return SIDE * y + x;
    }

    private void needCart(int cart) {
        if (cart < 0 || cart >= scene.carts) {
            throw new IndexOutOfBoundsException();
        }
    }

    private static void needTime(int time) {
        if (time < 0 || time > LAST) {
            throw new IllegalArgumentException();
        }
    }

    private static void needStop(int n) {
        if (n < 1 || n > MAX_STOP) {
            throw new IllegalArgumentException();
        }
    }

    private static void needTwo(int cart, int other) {
        if (cart == other) {
            throw new IllegalArgumentException();
        }
    }

    public int cell(int x, int y) throws IndexOutOfBoundsException {
        return scene.sorts[needCell(x, y)];
    }

    public int cart(int cart, int what) throws IndexOutOfBoundsException, NoSuchElementException {
        needCart(cart);
        switch (what) {
            case 0:
                return scene.places[cart];
            case 1:
                return scene.goals[cart];
            default:
                throw new NoSuchElementException();
        }
    }

    public int name(int cart, int k) throws IndexOutOfBoundsException {
        needCart(cart);
        if (k < 0 || k >= scene.nameLengths[cart]) {
            return NONE;
        }
        return scene.letters[MAX_NAME * cart + k];
    }

    // ---- acts

    public int tell(int x, int y, int sort)
            throws IndexOutOfBoundsException, IllegalArgumentException, IllegalStateException {
        int cell = needCell(x, y);
        if (sort < 0 || sort >= SORTS) {
            throw new IllegalArgumentException();
        }
        if (sort == WALL && scene.isTaken(cell)) {
            throw new IllegalStateException();
        }
        int before = scene.sorts[cell];
        acts.keep(Acts.TOLD, cell, before);
        scene.sorts[cell] = sort;
        sceneChanged();
        return before;
    }

    public int goal(int cart, int x, int y) throws IndexOutOfBoundsException, IllegalStateException {
        needCart(cart);
        int cell = needCell(x, y);
        int holder = indexOf(scene.goals, scene.carts, cell);
        if (scene.sorts[cell] == WALL || (holder != NONE && holder != cart)) {
            throw new IllegalStateException();
        }
        int before = scene.goals[cart];
        acts.keep(Acts.SENT, cart, before);
        scene.goals[cart] = cell;
        sceneChanged();
        return before;
    }

    public void change(int cart, int other) throws IndexOutOfBoundsException, IllegalArgumentException {
        needCart(cart);
        needCart(other);
        needTwo(cart, other);
        acts.keep(Acts.CHANGED, cart, other);
        scene.swapGoals(cart, other);
        sceneChanged();
    }

    public int undo() {
        if (acts.kept == 0) {
            return NONE;
        }
        acts.undoLatest(scene);
        sceneChanged();
        return acts.kept;
    }

    // ---- alone

    private Ways waysAlone() {
        if (aloneVersion != version) {
            aloneWays.goAlone(scene, search);
            aloneVersion = version;
        }
        return aloneWays;
    }

    public int cost(int cart) throws IndexOutOfBoundsException {
        needCart(cart);
        return waysAlone().costs[cart];
    }

    public int alone(int cart, int time) throws IndexOutOfBoundsException, IllegalArgumentException {
        needCart(cart);
        needTime(time);
        Ways ways = waysAlone();
        return ways.costs[cart] == NONE ? NONE : ways.cellOf(cart, time);
    }

    public int clash(int what) throws NoSuchElementException, IllegalStateException {
        if (what < 0 || what > 4) {
            throw new NoSuchElementException();
        }
        Ways ways = waysAlone();
        if (!ways.allGo()) {
            throw new IllegalStateException();
        }
        ways.findFirstClash();
        switch (what) {
            case 0:
                return ways.countClashes();
            case 1:
                return ways.clashTime;
            case 2:
                return ways.clashSort;
            case 3:
                return ways.clashLesser;
            default:
                return ways.clashOther;
        }
    }

    public int reach(int cart) throws IndexOutOfBoundsException {
        needCart(cart);
        return Long.bitCount(scene.reachedFrom(scene.places[cart]));
    }

    public int far(int x, int y, int toX, int toY) throws IndexOutOfBoundsException {
        int from = needCell(x, y);
        int to = needCell(toX, toY);
        if (scene.sorts[from] == WALL) {
            return NONE;
        }
        // no way that is least is longer than the cells are many, so the times are enough
        search.clear();
        return search.leastCost(scene, from, to);
    }

    // ---- plans

    private Tree treeOf(int bound) {
        if (bound < LEAST_BOUND || bound > MOST_BOUND) {
            throw new IllegalArgumentException();
        }
        Tree tree = trees[bound - LEAST_BOUND];
        if (tree == null) {
            tree = new Tree();
            trees[bound - LEAST_BOUND] = tree;
        }
        if (tree.version != version) {
            tree.build(scene, search, bound);
            tree.version = version;
        }
        return tree;
    }

    private Ways planned(int bound) {
        Tree tree = treeOf(bound);
        if (tree.planNode == NONE) {
            throw new IllegalStateException();
        }
        return tree.ways;
    }

    private int supposedSum(int bound) {
        draft.refresh();
        supposed.build(draft, search, bound);
        return supposed.planNode == NONE ? NONE : supposed.ways.sumCosts();
    }

    public int plan(int bound, int what) throws IllegalArgumentException, NoSuchElementException {
        Tree tree = treeOf(bound);
        boolean found = tree.planNode != NONE;
        switch (what) {
            case 0:
                return found ? tree.ways.sumCosts() : tree.isCut ? CUT : NONE;
            case 1:
                return tree.nodeCount;
            case 2:
                return tree.splits;
            case 3:
                return found && scene.carts > 0 ? tree.ways.lastEnd() : NONE;
            case 4:
                return tree.low;
            case 5:
                return tree.planNode;
            default:
                throw new NoSuchElementException();
        }
    }

    public int node(int bound, int node, int what) throws IllegalArgumentException, NoSuchElementException {
        Tree tree = treeOf(bound);
        if (node < 0 || node >= tree.nodeCount) {
            throw new NoSuchElementException();
        }
        Node told = tree.nodes[node];
        switch (what) {
            case 0:
                return told.parent == null ? NONE : told.parent.number;
            case 1:
                return told.sum;
            case 2:
                return told.clashes;
            case 3:
                return told.cart;
            case 4:
                return told.forbidden;
            case 5:
                return told.isSplit ? 1 : 0;
            default:
                throw new NoSuchElementException();
        }
    }

    public int at(int bound, int cart, int time)
            throws IndexOutOfBoundsException, IllegalArgumentException, IllegalStateException {
        needCart(cart);
        needTime(time);
        return planned(bound).cellOf(cart, time);
    }

    public int move(int bound, int cart, int time)
            throws IndexOutOfBoundsException, IllegalArgumentException, IllegalStateException {
        needCart(cart);
        if (time < 0 || time >= LAST) {
            throw new IllegalArgumentException();
        }
        return planned(bound).moveOf(cart, time);
    }

    public int used(int bound, int x, int y, boolean next)
            throws IndexOutOfBoundsException, IllegalArgumentException, IllegalStateException {
        int cell = needCell(x, y);
        Ways ways = planned(bound);
        return next ? ways.countLeaving(cell) : ways.countVisitors(cell);
    }

    public int busiest(int bound) throws IllegalArgumentException, IllegalStateException {
        Ways ways = planned(bound);
        int best = NONE;
        int most = 0;
        for (int cell = 0; cell < CELLS; cell++) {
            int visitors = ways.countVisitors(cell);
            if (visitors > most) {
                most = visitors;
                best = cell;
            }
        }
        return best;
    }

    public int waits(int bound) throws IllegalArgumentException, IllegalStateException {
        Ways ways = planned(bound);
        int total = 0;
        for (int cart = 0; cart < ways.carts; cart++) {
            total += ways.costs[cart] - ways.countSteps(cart);
        }
        return total;
    }

    public int late(int bound, int cart, int stopped, int time, int n)
            throws IndexOutOfBoundsException, IllegalArgumentException, IllegalStateException {
        needCart(cart);
        needCart(stopped);
        needTime(time);
        needStop(n);
        Ways ways = planned(bound);
        stop.run(ways, stopped, time, n);
        return stop.delay(ways, cart);
    }

    public int worse(int bound) throws IllegalArgumentException, IllegalStateException {
        int sum = planned(bound).sumCosts();
        int least = waysAlone().sumCosts();
        return quotientBits(sum, least);
    }

    /** The bits of the float next to above / below, where above is no less than below; of 1 where below is 0. */
    private static int quotientBits(int above, int below) {
        if (below <= 0) {
            return ONE_AS_FLOAT;
        }
        int exponent = 0;
        for (int k = 0; k < 16 && ((long) below << (exponent + 1)) <= above; k++) {
            exponent++;
        }
        long scaled = (long) above << (23 - exponent);
        long quotient = scaled / below;
        long rest = scaled % below;
        if (2 * rest > below || (2 * rest == below && (quotient & 1) == 1)) {
            quotient++;
        }
        return ((exponent + 127) << 23) + (int) (quotient - (1L << 23));
    }

    public int who(int bound, int x, int y, int time)
            throws IndexOutOfBoundsException, IllegalArgumentException, IllegalStateException {
        int cell = needCell(x, y);
        needTime(time);
        return planned(bound).cartIn(cell, time);
    }

    public int near(int bound, int cart, int other, boolean when)
            throws IndexOutOfBoundsException, IllegalArgumentException, IllegalStateException {
        needCart(cart);
        needCart(other);
        needTwo(cart, other);
        Ways ways = planned(bound);
        int least = ways.apart(cart, other, 0);
        int first = 0;
        for (int time = 1; time <= LAST; time++) {
            int apart = ways.apart(cart, other, time);
            if (apart < least) {
                least = apart;
                first = time;
            }
        }
        return when ? first : least;
    }

    public int without(int bound, int x, int y)
            throws IndexOutOfBoundsException, IllegalArgumentException, IllegalStateException {
        int cell = needCell(x, y);
        int sum = planned(bound).sumCosts();
        if (scene.sorts[cell] == WALL || scene.isTaken(cell)) {
            throw new IllegalStateException();
        }
        draft.copyFrom(scene);
        draft.sorts[cell] = WALL;
        int other = supposedSum(bound);
        return other == NONE ? NONE : other - sum;
    }

    public int follows(int bound, int cart, int other)
            throws IndexOutOfBoundsException, IllegalArgumentException, IllegalStateException {
        needCart(cart);
        needCart(other);
        needTwo(cart, other);
        Ways ways = planned(bound);
        int total = 0;
        for (int time = 1; time <= LAST; time++) {
            boolean bothGo = ways.comes(cart, time) && ways.comes(other, time);
            if (bothGo && ways.cellOf(cart, time) == ways.cellOf(other, time - 1)) {
                total++;
            }
        }
        return total;
    }

    public int shared(int bound, int k) throws IllegalArgumentException, IllegalStateException {
        Ways ways = planned(bound);
        int total = 0;
        for (int cell = 0; cell < CELLS; cell++) {
            if (ways.countVisitors(cell) >= 2) {
                if (total == k) {
                    return cell;
                }
                total++;
            }
        }
        return k == NONE ? total : NONE;
    }

    public int slack(int bound, int cart, int time)
            throws IndexOutOfBoundsException, IllegalArgumentException, IllegalStateException {
        needCart(cart);
        needTime(time);
        Ways ways = planned(bound);
        for (int n = MAX_STOP; n >= 1; n--) {
            stop.run(ways, cart, time, n);
            if (stop.sumDelays(ways) == stop.delay(ways, cart)) {
                return n;
            }
        }
        return 0;
    }

    public int critical(int bound, int n, boolean all) throws IllegalArgumentException, IllegalStateException {
        needStop(n);
        Ways ways = planned(bound);
        int worst = NONE;
        int most = NONE;
        for (int cart = 0; cart < ways.carts; cart++) {
            stop.run(ways, cart, 0, n);
            int delays = stop.sumDelays(ways);
            if (delays > most) {
                most = delays;
                worst = cart;
            }
        }
        return all ? most : worst;
    }

    public int ended(int bound, int time) throws IllegalArgumentException, IllegalStateException {
        needTime(time);
        Ways ways = planned(bound);
        int bits = 0;
        for (int cart = 0; cart < ways.carts; cart++) {
            if (ways.costs[cart] <= time) {
                bits |= 1 << cart;
            }
        }
        return bits;
    }

    public int way(int bound, int cart, int what)
            throws IndexOutOfBoundsException, IllegalArgumentException, IllegalStateException,
            NoSuchElementException {
        needCart(cart);
        Ways ways = planned(bound);
        switch (what) {
            case 0:
                return ways.costs[cart];
            case 1:
                return ways.costs[cart] - waysAlone().costs[cart];
            case 2:
                return Long.bitCount(ways.visitedBy(cart));
            case 3:
                return ways.countSteps(cart);
            case 4:
                return ways.firstTimeIn(cart, scene.goals[cart]);
            default:
                throw new NoSuchElementException();
        }
    }

    public int again(int bound, int time) throws IllegalArgumentException, IllegalStateException {
        needTime(time);
        Ways ways = planned(bound);
        draft.copyFrom(scene);
        for (int cart = 0; cart < ways.carts; cart++) {
            draft.places[cart] = ways.cellOf(cart, time);
        }
        return supposedSum(bound);
    }

    public int among(int cart) throws IndexOutOfBoundsException {
        needCart(cart);
        search.clear();
        for (int other = 0; other < scene.carts; other++) {
            if (other != cart) {
                search.forbidAlways(scene.places[other]);
            }
        }
        return search.leastCost(scene, scene.places[cart], scene.goals[cart]);
    }

    // ---- by turns

    private void needOrder(int order) {
        if (order < 0 || order >= FACTORIALS[scene.carts]) {
            throw new NoSuchElementException();
        }
    }

    private Ways waysByTurns(int order) {
        if (turns.version != version || turns.number != order) {
            turns.takeOrder(order, scene.carts);
            turns.goInOrder(scene, search);
            turns.version = version;
            turns.number = order;
        }
        return turns.ways;
    }

    public int byTurns(int order) throws NoSuchElementException {
        needOrder(order);
        Ways ways = waysByTurns(order);
        return ways.allGo() ? ways.sumCosts() : NONE;
    }

    public int turned(int order, int cart, int time)
            throws IndexOutOfBoundsException, NoSuchElementException, IllegalArgumentException,
            IllegalStateException {
        needCart(cart);
        needOrder(order);
        needTime(time);
        Ways ways = waysByTurns(order);
        if (!ways.allGo()) {
            throw new IllegalStateException();
        }
        return ways.cellOf(cart, time);
    }

    public int bestOrder(boolean sum) {
        if (turns.bestVersion != version) {
            findBestOrder();
            turns.bestVersion = version;
        }
        return sum ? turns.bestSum : turns.bestNumber;
    }

    private void findBestOrder() {
        turns.bestNumber = NONE;
        turns.bestSum = NONE;
        for (int order = 0; order < FACTORIALS[scene.carts]; order++) {
            Ways ways = waysByTurns(order);
            boolean better = turns.bestSum == NONE || ways.sumCosts() < turns.bestSum;
            if (ways.allGo() && better) {
                turns.bestNumber = order;
                turns.bestSum = ways.sumCosts();
            }
        }
    }

    public int ordered(int order, int k) throws NoSuchElementException {
        needOrder(order);
        if (k < 0 || k >= scene.carts) {
            throw new NoSuchElementException();
        }
        turns.takeOrder(order, scene.carts);
        return turns.order[k];
    }

    public int write(int bound, int time) throws IllegalArgumentException, IllegalStateException {
        needTime(time);
        Ways ways = planned(bound);
        writtenLength = 0;
        for (int y = 0; y < scene.rows; y++) {
            for (int x = 0; x < scene.columns; x++) {
                int cell = SIDE * y + x;
                int cart = ways.cartIn(cell, time);
                putWritten(cart == NONE ? SIGNS.charAt(scene.sorts[cell]) : '0' + cart);
            }
            putWritten(NEW_LINE);
        }
        return writtenLength;
    }

    private void putWritten(int octet) {
        if (writtenLength < written.length) {
            written[writtenLength] = octet;
            writtenLength++;
        }
    }

    public int octet(int k) {
        return k < 0 || k >= writtenLength ? NONE : written[k];
    }

    public int count(int what) {
        switch (what) {
            case 0:
                return scene.columns;
            case 1:
                return scene.rows;
            case 2:
                return scene.carts;
            case 3:
                return scene.countFree();
            case 4:
                return FACTORIALS[scene.carts];
            case 5:
                return acts.kept;
            case 6:
                return writtenLength;
            case 7:
                return waysAlone().allGo() ? waysAlone().sumCosts() : NONE;
            default:
                return NONE;
        }
    }

    /** Where a number stands among the first ones of a row; NONE: nowhere. */
    private static int indexOf(int[] row, int length, int number) {
        for (int k = 0; k < length && k < row.length; k++) {
            if (row[k] == number) {
                return k;
            }
        }
        return NONE;
    }

    /** The grid and its carts, as a text tells them and acts change them. */
    private static final class Scene {
        private int columns = 0;
        private int rows = 0;
        private final int[] sorts = new int[CELLS];
        private int carts = 0;
        private final int[] places = new int[MAX_CARTS];
        private final int[] goals = new int[MAX_CARTS];
        private final int[] letters = new int[MAX_CARTS * MAX_NAME];
        private final int[] nameLengths = new int[MAX_CARTS];
        /** By move: the cells (bits) that one may leave by it. */
        private final long[] leaving = new long[DIRECTIONS];

        private void empty() {
            columns = 0;
            rows = 0;
            carts = 0;
            Arrays.fill(sorts, FREE);
        }

        private void copyFrom(Scene other) {
            columns = other.columns;
            rows = other.rows;
            carts = other.carts;
            System.arraycopy(other.sorts, 0, sorts, 0, CELLS);
            System.arraycopy(other.places, 0, places, 0, MAX_CARTS);
            System.arraycopy(other.goals, 0, goals, 0, MAX_CARTS);
            System.arraycopy(other.letters, 0, letters, 0, MAX_CARTS * MAX_NAME);
            System.arraycopy(other.nameLengths, 0, nameLengths, 0, MAX_CARTS);
        }

        private boolean has(int x, int y) {
            return x >= 0 && x < columns && y >= 0 && y < rows;
        }

        private boolean isTaken(int cell) {
            return indexOf(places, carts, cell) != NONE || indexOf(goals, carts, cell) != NONE;
        }

        private void swapGoals(int cart, int other) {
            int goal = goals[cart];
            goals[cart] = goals[other];
            goals[other] = goal;
        }

        private int countFree() {
            int total = 0;
            for (int y = 0; y < rows; y++) {
                for (int x = 0; x < columns; x++) {
                    if (sorts[SIDE * y + x] != WALL) {
                        total++;
                    }
                }
            }
            return total;
        }

        private void refresh() {
            for (int move = 0; move < DIRECTIONS; move++) {
                long cells = 0;
                for (int y = 0; y < rows; y++) {
                    for (int x = 0; x < columns; x++) {
                        if (lets(x, y, move)) {
                            cells |= 1L << (SIDE * y + x);
                        }
                    }
                }
                leaving[move] = cells;
            }
        }

        private boolean lets(int x, int y, int move) {
            int sort = sorts[SIDE * y + x];
            int toX = x + ACROSS[move];
            int toY = y + DOWN[move];
            boolean leaves = sort == FREE || sort == ONE_WAY + move;
            return leaves && has(toX, toY) && sorts[SIDE * toY + toX] != WALL;
        }

        private long reachedFrom(int place) {
            long reached = 1L << place;
            for (int k = 0; k < CELLS; k++) {
                reached |= (reached & leaving[0]) >>> SIDE | (reached & leaving[1]) << 1
                        | (reached & leaving[2]) << SIDE | (reached & leaving[3]) >>> 1;
            }
            return reached;
        }
    }

    /** The tape, and the scene that it tells. */
    private static final class TextReader {
        private final int[] text = new int[MAX_TEXT];
        private int length = 0;
        private int pos = 0;
        private int fault = NONE;
        private int wordStart = 0;
        private final Scene scene = new Scene();

        private void append(int number) {
            for (int shift = 24; shift >= 0 && length < MAX_TEXT; shift -= 8) {
                text[length] = (number >>> shift) & 255;
                length++;
            }
        }

        /** Finds the fault; without one the scene is what the text tells. */
        private void parse() {
            pos = 0;
            fault = NONE;
            scene.empty();
            boolean more = true;
            for (int line = 0; more && line <= MAX_TEXT; line++) {
                more = takeLine();
            }
            if (fault == NONE && scene.rows == 0) {
                fault = length;
            }
        }

        private boolean failAt(int place) {
            fault = place;
            return false;
        }

        private boolean takeLine() {
            skipBlanks();
            if (pos >= length) {
                return false;
            }
            takeWord();
            if (wordIs("row") && scene.rows < SIDE && scene.carts == 0) {
                return takeRow() && takeSemicolon();
            }
            if (wordIs("cart") && scene.rows > 0 && scene.carts < MAX_CARTS) {
                return takeCart() && takeSemicolon();
            }
            return failAt(wordStart);
        }

        private void skipBlanks() {
            boolean blank = true;
            for (int k = 0; blank && k <= MAX_TEXT; k++) {
                blank = pos < length && (text[pos] == 9 || text[pos] == 10 || text[pos] == 32);
                pos += blank ? 1 : 0;
            }
        }

        private void takeWord() {
            skipBlanks();
            wordStart = pos;
            for (int k = 0; k <= MAX_TEXT && pos < length && text[pos] >= 'a' && text[pos] <= 'z'; k++) {
                pos++;
            }
        }

        private boolean wordIs(String word) {
            if (pos - wordStart != word.length()) {
                return false;
            }
            for (int k = 0; k < word.length(); k++) {
                if (text[wordStart + k] != word.charAt(k)) {
                    return false;
                }
            }
            return true;
        }

        private boolean takeGiven(String word) {
            takeWord();
            return wordIs(word) || failAt(wordStart);
        }

        private boolean takeSemicolon() {
            skipBlanks();
            if (pos >= length || text[pos] != ';') {
                return failAt(pos);
            }
            pos++;
            return true;
        }

        private boolean takeRow() {
            skipBlanks();
            int start = pos;
            for (int k = 0; k <= MAX_TEXT && pos < length && SIGNS.indexOf((char) text[pos]) >= 0; k++) {
                pos++;
            }
            int wide = pos - start;
            if (wide < 1 || wide > SIDE || (scene.rows > 0 && wide != scene.columns)) {
                return failAt(start);
            }
            for (int x = 0; x < wide; x++) {
                scene.sorts[SIDE * scene.rows + x] = SIGNS.indexOf((char) text[start + x]);
            }
            scene.columns = wide;
            scene.rows++;
            return true;
        }

        private boolean takeCart() {
            int cart = scene.carts;
            if (!takeName(cart) || !takeGiven("at")) {
                return false;
            }
            scene.places[cart] = takeCell(scene.places);
            if (scene.places[cart] == NONE || !takeGiven("to")) {
                return false;
            }
            scene.goals[cart] = takeCell(scene.goals);
            if (scene.goals[cart] == NONE) {
                return false;
            }
            scene.carts++;
            return true;
        }

        private boolean takeName(int cart) {
            takeWord();
            int size = pos - wordStart;
            boolean reserved = wordIs("row") || wordIs("cart") || wordIs("at") || wordIs("to");
            if (size < 1 || size > MAX_NAME || reserved || isToldName()) {
                return failAt(wordStart);
            }
            for (int k = 0; k < size; k++) {
                scene.letters[MAX_NAME * cart + k] = text[wordStart + k];
            }
            scene.nameLengths[cart] = size;
            return true;
        }

        private boolean isToldName() {
            for (int cart = 0; cart < scene.carts; cart++) {
                boolean same = scene.nameLengths[cart] == pos - wordStart;
                for (int k = 0; same && k < scene.nameLengths[cart]; k++) {
                    same = scene.letters[MAX_NAME * cart + k] == text[wordStart + k];
                }
                if (same) {
                    return true;
                }
            }
            return false;
        }

        /** A free cell that is none of the carts' ahead; NONE behind a fault. */
        private int takeCell(int[] others) {
            int x = takeNumber(scene.columns);
            int y = x == NONE ? NONE : takeNumber(scene.rows);
            if (y == NONE) {
                return NONE;
            }
            int cell = SIDE * y + x;
            if (scene.sorts[cell] == WALL || indexOf(others, scene.carts, cell) != NONE) {
                failAt(pos - 1);
                return NONE;
            }
            return cell;
        }

        /** One digit, of a number below the limit; NONE behind a fault. */
        private int takeNumber(int limit) {
            skipBlanks();
            int start = pos;
            for (int k = 0; k <= MAX_TEXT && pos < length && text[pos] >= '0' && text[pos] <= '9'; k++) {
                pos++;
            }
            if (pos - start != 1 || text[start] - '0' >= limit) {
                failAt(start);
                return NONE;
            }
            return text[start] - '0';
        }
    }

    /** The latest acts, and how each is undone. */
    private static final class Acts {
        private static final int TOLD = 0;
        private static final int SENT = 1;
        private static final int CHANGED = 2;

        private final int[] kinds = new int[MAX_ACTS];
        private final int[] whose = new int[MAX_ACTS];
        private final int[] before = new int[MAX_ACTS];
        private int kept = 0;

        private void clear() {
            kept = 0;
        }

        private void keep(int kind, int which, int old) {
            if (kept == MAX_ACTS) {
                System.arraycopy(kinds, 1, kinds, 0, MAX_ACTS - 1);
                System.arraycopy(whose, 1, whose, 0, MAX_ACTS - 1);
                System.arraycopy(before, 1, before, 0, MAX_ACTS - 1);
                kept--;
            }
            kinds[kept] = kind;
            whose[kept] = which;
            before[kept] = old;
            kept++;
        }

        private void undoLatest(Scene scene) {
            if (kept == 0) {
                return;
            }
            kept--;
            switch (kinds[kept]) {
                case TOLD:
                    scene.sorts[whose[kept]] = before[kept];
                    break;
                case SENT:
                    scene.goals[whose[kept]] = before[kept];
                    break;
                default:
                    scene.swapGoals(whose[kept], before[kept]);
                    break;
            }
        }
    }

    /** The best way of one cart by what is forbidden; sets of cells are bits, so that a time is a few steps. */
    private static final class Search {
        /** By time: the cells that are forbidden. */
        private final long[] cells = new long[TIMES];
        /** By move and time: the cells from which that move may not come at that time. */
        private final long[] moves = new long[DIRECTIONS * TIMES];
        /** By time: the cells from which the goal can be reached when it must be. */
        private final long[] back = new long[TIMES];

        private void clear() {
            Arrays.fill(cells, 0L);
            Arrays.fill(moves, 0L);
        }

        private void forbidCell(int cell, int time) {
            cells[time] |= 1L << cell;
        }

        private void forbidAlways(int cell) {
            for (int time = 0; time <= LAST; time++) {
                forbidCell(cell, time);
            }
        }

        private void forbidMove(int from, int to, int time) {
            for (int move = 0; move < DIRECTIONS; move++) {
                if (from + AHEAD[move] == to) {
                    moves[TIMES * move + time] |= 1L << from;
                }
            }
        }

        /** The cost of the best way, which is put into the row from start on; NONE: there is no way. */
        private int find(Scene scene, int cart, int[] row, int start) {
            int goal = scene.goals[cart];
            int least = leastCost(scene, scene.places[cart], goal);
            if (least != NONE) {
                lookBack(scene, goal, least);
                row[start] = scene.places[cart];
                for (int time = 1; time <= least; time++) {
                    row[start + time] = leastStep(scene, row[start + time - 1], time);
                }
                for (int time = least + 1; time <= LAST; time++) {
                    row[start + time] = goal;
                }
            }
            return least;
        }

        private int leastCost(Scene scene, int place, int goal) {
            long[] leaving = scene.leaving;
            int free = freeFrom(goal);
            long here = (1L << place) & ~cells[0];
            for (int time = 0; time < LAST; time++) {
                if (time >= free && (here >>> goal & 1) == 1) {
                    return time;
                }
                int then = time + 1;
                here = (here
                        | (here & leaving[0] & ~moves[then]) >>> SIDE
                        | (here & leaving[1] & ~moves[TIMES + then]) << 1
                        | (here & leaving[2] & ~moves[2 * TIMES + then]) << SIDE
                        | (here & leaving[3] & ~moves[3 * TIMES + then]) >>> 1) & ~cells[then];
            }
            return LAST >= free && (here >>> goal & 1) == 1 ? LAST : NONE;
        }

        /** The first time from which on the cell is not forbidden any more. */
        private int freeFrom(int cell) {
            for (int time = LAST; time >= 0; time--) {
                if ((cells[time] >>> cell & 1) == 1) {
                    return time + 1;
                }
            }
            return 0;
        }

        private void lookBack(Scene scene, int goal, int least) {
            long[] leaving = scene.leaving;
            back[least] = 1L << goal;
            for (int then = least; then > 0; then--) {
                long set = back[then];
                back[then - 1] = (set
                        | (set << SIDE & leaving[0] & ~moves[then])
                        | (set >>> 1 & leaving[1] & ~moves[TIMES + then])
                        | (set >>> SIDE & leaving[2] & ~moves[2 * TIMES + then])
                        | (set << 1 & leaving[3] & ~moves[3 * TIMES + then])) & ~cells[then - 1];
            }
        }

        /** The cell to which the least move that still leads to the goal comes at a time. */
        private int leastStep(Scene scene, int from, int time) {
            for (int move = 0; move < DIRECTIONS; move++) {
                long allowed = scene.leaving[move] & ~moves[TIMES * move + time];
                if ((allowed >>> from & 1) == 1 && (back[time] >>> (from + AHEAD[move]) & 1) == 1) {
                    return from + AHEAD[move];
                }
            }
            return from;
        }
    }

    /** A way for each cart, and how they clash. */
    private static final class Ways {
        private final int[] cells = new int[MAX_CARTS * TIMES];
        private final int[] costs = new int[MAX_CARTS];
        private int carts = 0;
        private int clashTime = NONE;
        private int clashSort = NONE;
        private int clashLesser = NONE;
        private int clashOther = NONE;

        private void goAlone(Scene scene, Search search) {
            carts = scene.carts;
            search.clear();
            for (int cart = 0; cart < carts; cart++) {
                costs[cart] = search.find(scene, cart, cells, TIMES * cart);
            }
        }

        private void put(int cart, int[] row, int start, int cost) {
            System.arraycopy(row, start, cells, TIMES * cart, TIMES);
            costs[cart] = cost;
        }

        private boolean allGo() {
            return indexOf(costs, carts, NONE) == NONE;
        }

        private int sumCosts() {
            int sum = 0;
            for (int cart = 0; cart < carts; cart++) {
                sum += costs[cart];
            }
            return sum;
        }

        private int lastEnd() {
            int last = 0;
            for (int cart = 0; cart < carts; cart++) {
                last = costs[cart] > last ? costs[cart] : last;
            }
            return last;
        }

        private int cellOf(int cart, int time) {
            return cells[TIMES * cart + time];
        }

        private boolean comes(int cart, int time) {
            return cellOf(cart, time) != cellOf(cart, time - 1);
        }

        private int moveOf(int cart, int time) {
            int ahead = cellOf(cart, time + 1) - cellOf(cart, time);
            int move = indexOf(AHEAD, DIRECTIONS, ahead);
            return move == NONE ? STAY : move;
        }

        private int cartIn(int cell, int time) {
            for (int cart = 0; cart < carts; cart++) {
                if (cellOf(cart, time) == cell) {
                    return cart;
                }
            }
            return NONE;
        }

        private long visitedBy(int cart) {
            long visited = 0;
            for (int time = 0; time <= LAST; time++) {
                visited |= 1L << cellOf(cart, time);
            }
            return visited;
        }

        private int countVisitors(int cell) {
            int total = 0;
            for (int cart = 0; cart < carts; cart++) {
                total += firstTimeIn(cart, cell) == NONE ? 0 : 1;
            }
            return total;
        }

        private int countLeaving(int cell) {
            int total = 0;
            for (int cart = 0; cart < carts; cart++) {
                for (int time = 1; time <= LAST; time++) {
                    if (cellOf(cart, time - 1) == cell && comes(cart, time)) {
                        total++;
                    }
                }
            }
            return total;
        }

        private int countSteps(int cart) {
            int total = 0;
            for (int time = 1; time <= LAST; time++) {
                total += comes(cart, time) ? 1 : 0;
            }
            return total;
        }

        private int firstTimeIn(int cart, int cell) {
            for (int time = 0; time <= LAST; time++) {
                if (cellOf(cart, time) == cell) {
                    return time;
                }
            }
            return NONE;
        }

        private int apart(int cart, int other, int time) {
            int here = cellOf(cart, time);
            int there = cellOf(other, time);
            return Math.abs(here % SIDE - there % SIDE) + Math.abs(here / SIDE - there / SIDE);
        }

        /** Places are all unlike, and so are goals: no clash at time 0, nor when all have ended. */
        private int countClashes() {
            int total = 0;
            int last = lastEnd();
            for (int lesser = 0; lesser < carts; lesser++) {
                for (int more = lesser + 1; more < carts; more++) {
                    for (int time = 1; time <= last; time++) {
                        total += sortOfClash(lesser, more, time) == NONE ? 0 : 1;
                    }
                }
            }
            return total;
        }

        /** At a time from 1 on; NONE: the two do not clash then. */
        private int sortOfClash(int lesser, int more, int time) {
            int here = TIMES * lesser + time;
            int there = TIMES * more + time;
            if (cells[here] == cells[there]) {
                return MEET;
            }
            return cells[here] == cells[there - 1] && cells[there] == cells[here - 1] ? SWAP : NONE;
        }

        private void findFirstClash() {
            keepClash(NONE, NONE, NONE, NONE);
            int last = lastEnd();
            for (int time = 1; time <= last && clashTime == NONE; time++) {
                findClashAt(time, MEET);
                if (clashTime == NONE) {
                    findClashAt(time, SWAP);
                }
            }
        }

        private void findClashAt(int time, int sort) {
            for (int lesser = 0; lesser < carts; lesser++) {
                for (int more = lesser + 1; more < carts; more++) {
                    if (sortOfClash(lesser, more, time) == sort) {
                        keepClash(time, sort, lesser, more);
                        return;
                    }
                }
            }
        }

        private void keepClash(int time, int sort, int lesser, int more) {
            clashTime = time;
            clashSort = sort;
            clashLesser = lesser;
            clashOther = more;
        }
    }

    /** One node of a tree: what it forbids beyond its parent, and the way that is found anew by that. */
    private static final class Node {
        private final int number;
        private Node parent = null;
        private int cart = NONE;
        private int time = NONE;
        /** NONE: the cell itself is forbidden, not the move from here. */
        private int from = NONE;
        private int to = NONE;
        private final int[] row = new int[TIMES];
        private int cost = 0;
        private int sum = 0;
        private int clashes = 0;
        private int forbidden = 0;
        private boolean isSplit = false;

        private Node(int number) {
            this.number = number;
        }
    }

    /** The tree of clashes by a bound, up to its plan. */
    private static final class Tree {
        private final Node[] nodes = new Node[NODE_ROOM];
        private final Ways first = new Ways();
        /** The ways of the node that was looked at latest: those of the plan, once it is found. */
        private final Ways ways = new Ways();
        private final int[] spare = new int[TIMES];
        private int version = NONE;
        private int nodeCount = 0;
        private int splits = 0;
        private int low = NONE;
        private int planNode = NONE;
        private boolean isCut = false;

        private void build(Scene scene, Search search, int bound) {
            nodeCount = 0;
            splits = 0;
            low = NONE;
            planNode = NONE;
            isCut = false;
            first.goAlone(scene, search);
            if (!first.allGo()) {
                return;
            }
            addRoot();
            boolean more = true;
            for (int round = 0; more && round <= NODE_ROOM; round++) {
                Node node = choose(bound);
                more = node != null && goOn(node);
                if (more) {
                    node.isSplit = true;
                    splits++;
                    grow(scene, search, node, ways.clashLesser);
                    grow(scene, search, node, ways.clashOther);
                }
            }
        }

        private Node nextNode() {
            if (nodes[nodeCount] == null) {
                nodes[nodeCount] = new Node(nodeCount);
            }
            return nodes[nodeCount];
        }

        private void addRoot() {
            Node root = nextNode();
            root.sum = first.sumCosts();
            root.clashes = first.countClashes();
            root.isSplit = false;
            nodeCount++;
        }

        /** Of the waiting nodes within the bound the one to look at; null: none waits. */
        private Node choose(int bound) {
            int least = leastWaiting();
            if (least == NONE) {
                return null;
            }
            low = least;
            Node best = null;
            for (int k = 0; k < nodeCount; k++) {
                Node node = nodes[k];
                if (!node.isSplit && 10 * node.sum <= bound * low) {
                    boolean better = best == null || node.clashes < best.clashes
                            || (node.clashes == best.clashes && node.sum < best.sum);
                    best = better ? node : best;
                }
            }
            return best;
        }

        private int leastWaiting() {
            int least = NONE;
            for (int k = 0; k < nodeCount; k++) {
                Node node = nodes[k];
                if (!node.isSplit && (least == NONE || node.sum < least)) {
                    least = node.sum;
                }
            }
            return least;
        }

        /** Whether the node is to be split: then its first clash is known. */
        private boolean goOn(Node node) {
            load(node);
            if (node.clashes == 0) {
                planNode = node.number;
                return false;
            }
            if (nodeCount >= MAX_NODES) {
                isCut = true;
                return false;
            }
            ways.findFirstClash();
            return true;
        }

        /** Each cart's way is the one that was found latest for it on the way down to the node. */
        private void load(Node node) {
            ways.carts = first.carts;
            int found = 0;
            for (Node each = node; each.parent != null; each = each.parent) {
                if ((found >>> each.cart & 1) == 0) {
                    found |= 1 << each.cart;
                    ways.put(each.cart, each.row, 0, each.cost);
                }
            }
            for (int cart = 0; cart < first.carts; cart++) {
                if ((found >>> cart & 1) == 0) {
                    ways.put(cart, first.cells, TIMES * cart, first.costs[cart]);
                }
            }
        }

        private void grow(Scene scene, Search search, Node parent, int cart) {
            Node node = nextNode();
            node.parent = parent;
            node.cart = cart;
            node.time = ways.clashTime;
            node.to = ways.cellOf(cart, node.time);
            node.from = ways.clashSort == MEET ? NONE : ways.cellOf(cart, node.time - 1);
            forbidAll(search, node);
            node.cost = search.find(scene, cart, node.row, 0);
            if (node.cost == NONE) {
                return;
            }
            node.sum = parent.sum - ways.costs[cart] + node.cost;
            node.clashes = clashesWith(node);
            node.forbidden = parent.forbidden + 1;
            node.isSplit = false;
            nodeCount++;
        }

        private static void forbidAll(Search search, Node node) {
            search.clear();
            for (Node each = node; each != null; each = each.parent) {
                if (each.cart == node.cart) {
                    if (each.from == NONE) {
                        search.forbidCell(each.to, each.time);
                    } else {
                        search.forbidMove(each.from, each.to, each.time);
                    }
                }
            }
        }

        private int clashesWith(Node node) {
            int before = ways.costs[node.cart];
            System.arraycopy(ways.cells, TIMES * node.cart, spare, 0, TIMES);
            ways.put(node.cart, node.row, 0, node.cost);
            int total = ways.countClashes();
            ways.put(node.cart, spare, 0, before);
            return total;
        }
    }

    /** Carts planned one behind another in an order. */
    private static final class Turns {
        private final Ways ways = new Ways();
        private final int[] order = new int[MAX_CARTS];
        /** Of which scene and order the ways are. */
        private int version = NONE;
        private int number = NONE;
        private int bestVersion = NONE;
        private int bestNumber = NONE;
        private int bestSum = NONE;

        private void takeOrder(int told, int carts) {
            int left = told;
            int taken = 0;
            for (int k = 0; k < carts; k++) {
                int behind = FACTORIALS[carts - 1 - k];
                int cart = freeCart(taken, left / behind);
                left = left % behind;
                taken |= 1 << cart;
                order[k] = cart;
            }
        }

        /** The cart that is not taken, behind so many others that are not. */
        private static int freeCart(int taken, int skipped) {
            int left = skipped;
            for (int cart = 0; cart < MAX_CARTS; cart++) {
                if ((taken >>> cart & 1) == 0) {
                    if (left == 0) {
                        return cart;
                    }
                    left--;
                }
            }
            return 0;
        }

        /** Ends with the first cart that has no way: its cost tells that the order fails. */
        private void goInOrder(Scene scene, Search search) {
            ways.carts = scene.carts;
            search.clear();
            boolean goes = true;
            for (int k = 0; goes && k < scene.carts; k++) {
                int cart = order[k];
                ways.costs[cart] = search.find(scene, cart, ways.cells, TIMES * cart);
                goes = ways.costs[cart] != NONE;
                if (goes) {
                    forbidWay(search, cart);
                }
            }
        }

        private void forbidWay(Search search, int cart) {
            search.forbidCell(ways.cellOf(cart, 0), 0);
            for (int time = 1; time <= LAST; time++) {
                search.forbidCell(ways.cellOf(cart, time), time);
                if (ways.comes(cart, time)) {
                    search.forbidMove(ways.cellOf(cart, time), ways.cellOf(cart, time - 1), time);
                }
            }
        }
    }

    /** When carts come if one of them stops and all keep who was where ahead of whom. */
    private static final class Stop {
        /** By cart: when it has come to the cell in which it is by the plan. */
        private final int[] come = new int[MAX_CARTS];
        /** By cell: when the latest one that left it by the plan has come to its next cell. */
        private final int[] left = new int[CELLS];

        private void run(Ways ways, int stopped, int time, int n) {
            Arrays.fill(come, 0);
            Arrays.fill(left, 0);
            boolean waiting = true;
            for (int now = 1; now <= LAST; now++) {
                for (int cart = 0; cart < ways.carts; cart++) {
                    if (ways.comes(cart, now)) {
                        come[cart] = Math.max(now, come[cart] + 1);
                    }
                }
                if (waiting && now > time && ways.comes(stopped, now)) {
                    come[stopped] = Math.max(come[stopped], time + n + 1);
                    waiting = false;
                }
                waitForOthers(ways, now);
                leaveCells(ways, now);
            }
        }

        /** Carts may follow one another, in a ring too: as many rounds as carts pass a delay on to all. */
        private void waitForOthers(Ways ways, int now) {
            for (int round = 0; round < ways.carts; round++) {
                for (int cart = 0; cart < ways.carts; cart++) {
                    if (ways.comes(cart, now)) {
                        int cell = ways.cellOf(cart, now);
                        int ahead = ways.cartIn(cell, now - 1);
                        int until = ahead == NONE ? left[cell] : come[ahead];
                        come[cart] = Math.max(come[cart], until);
                    }
                }
            }
        }

        private void leaveCells(Ways ways, int now) {
            for (int cart = 0; cart < ways.carts; cart++) {
                if (ways.comes(cart, now)) {
                    left[ways.cellOf(cart, now - 1)] = come[cart];
                }
            }
        }

        private int delay(Ways ways, int cart) {
            return come[cart] - ways.costs[cart];
        }

        private int sumDelays(Ways ways) {
            int total = 0;
            for (int cart = 0; cart < ways.carts; cart++) {
                total += delay(ways, cart);
            }
            return total;
        }
    }
}
