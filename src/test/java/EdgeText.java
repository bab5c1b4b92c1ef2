/** The text and its fault, sentence by sentence, and promises 1 to 8. */
final class EdgeText {
    private static final String ROW = "row ..;";
    private static final String SIX_CARTS = "row ......;cart a at 0 0 to 0 0;cart b at 1 0 to 1 0;"
            + "cart c at 2 0 to 2 0;cart d at 3 0 to 3 0;cart e at 4 0 to 4 0;cart f at 5 0 to 5 0;";
    private static final int FIVE_CARTS_END = 11 + 5 * 21;
    private static final int WORD_ROW = 0x726f7720;

    private final Check check;

    EdgeText(Check check) {
        this.check = check;
    }

    void look() {
        lines();
        cellsAndNames();
        numbersAndBlanks();
        asManyAsStandThere();
        rows();
        carts();
        faultsOfTokens();
        faultsOfPoints();
        moreMustCome();
        newObject();
        newObjectHasNoPlans();
        feed();
        end();
        read();
        faultAndCell();
        cartAndName();
    }

    /** A cart's text behind one row of two cells; its tokens begin at 7, 12, 14, 17, 19, 21, 24, 26. */
    private static String cart(String behind) {
        return ROW + "cart " + behind;
    }

    private static String blanks(int count) {
        return " ".repeat(count);
    }

    private void lines() {
        check.terms("THE TEXT has at most 400 bytes: { LINE ; }.");
        check.fault("row .;" + blanks(394), -1);
        check.fault("row .;" + blanks(393) + "x", 399);
        check.fault("row ." + blanks(395), 400);
        check.fault(blanks(394) + "row .;", -1);
        check.fault("row .;;", 6);
        check.fault(";", 0);
        check.fault("row . row .;", 6);
        check.terms("LINE: row CELLS | cart NAME at N N to N N.");
        check.fault(".. row;", 0);
        check.fault("row;", 3);
        check.fault(cart("at 0 0 to 1 0;"), 12);
        check.fault(cart("a 0 0 to 1 0;"), 14);
        check.fault(cart("a to 0 0 at 1 0;"), 14);
        check.fault(cart("a at to 1 0;"), 17);
        check.fault(cart("a at 0 to 1 0;"), 19);
        check.fault(cart("a at 0 0 1 0;"), 21);
        check.fault(cart("a at 0 0 at 1 0;"), 21);
        check.fault(cart("a at 0 0 to;"), 23);
        check.fault(cart("a at 0 0 to 1;"), 25);
        check.fault(cart("a at 0 0 to 1 0 0;"), 28);
        check.fault(cart("a at 0 0 to 1 0;"), -1);
    }

    private void cellsAndNames() {
        check.terms("CELLS: 1 to 6 signs . # ^ > v < next to one another.");
        check.fault("row ;", 4);
        check.fault("row #;", -1);
        check.fault("row .#^>v<;", -1);
        check.fault("row .#^>v<.;", 4);
        check.fault("row . .;", 6);
        for (char sign : new char[] {'-', '/', ',', '"', '$', ']', '_', '=', '?', 'u', 'w', 'V', (char) 174}) {
            check.fault("row " + sign + ";", 4);
            check.fault("row ." + sign + ";", 5);
        }
        check.terms("NAMES: 1 to 6 letters a to z, none of row, cart, at, to.");
        check.fault(cart("0 at 0 0 to 1 0;"), 12);
        for (String name : new String[] {"a", "z", "abcxyz", "ro", "rows", "car", "carts", "att", "ta", "too", "t"}) {
            check.fault(cart(name + " at 0 0 to 1 0;"), -1);
        }
        for (String name : new String[] {"row", "cart", "at", "to", "abcdefg", "A", "Z", "`", "{", "_"}) {
            check.fault(cart(name + " at 0 0 to 1 0;"), 12);
        }
        check.fault(cart("a` at 0 0 to 1 0;"), 13);
        check.fault(cart("a{ at 0 0 to 1 0;"), 13);
        check.fault(cart("a1 at 0 0 to 1 0;"), 13);
    }

    private void numbersAndBlanks() {
        check.terms("N: one digit.");
        check.fault("row ......;row ......;row ......;row ......;row ......;row ......;"
                + "cart a at 0 5 to 5 0;cart b at 1 4 to 2 3;", -1);
        for (String number : new String[] {"/", ":", "00", "10", "09", "90", "x", "-0", "+0", ".0"}) {
            check.fault(cart("a at " + number + " 0 to 1 0;"), 17);
            check.fault(cart("a at 0 " + number + " to 1 0;"), 19);
            check.fault(cart("a at 0 0 to " + number + " 0;"), 24);
            check.fault(cart("a at 0 0 to 1 " + number + ";"), 26);
        }
        check.terms("BLANKS (9, 10, 32) may stand between all;");
        for (String blank : new String[] {"\t", "\n", " ", " \n\t\n "}) {
            String text = String.join(blank, "", "row", "..", ";", "cart", "a", "at", "0", "0", "to", "1", "0", ";", "");
            check.fault(text, -1);
        }
        check.fault("row..;cart a at0 0to1 0;", -1);
        for (int sign : new int[] {0, 8, 11, 12, 13, 31, 33, 127, 128 + 9, 128 + 10, 128 + 32, 255}) {
            check.fault("row .;" + (char) sign, 6);
            check.fault("row .;" + (char) sign + "row .;", 6);
            check.fault("row" + (char) sign + ".;", 3);
        }
    }

    private void asManyAsStandThere() {
        check.terms("words are as many small letters as stand there;");
        check.fault("rowv;", 0);
        check.fault("ro w .;", 0);
        check.fault(ROW + "carta at 0 0 to 1 0;", 7);
        check.fault(cart("aat 0 0 to 1 0;"), 16);
        check.fault(cart("a att 0 0 to 1 0;"), 14);
        check.fault(cart("a at 0 0 tox 1 0;"), 21);
        check.fault(cart("a at 0 0 toto 1 0;"), 21);
        check.terms("CELLS as many of these signs as stand there.");
        check.fault("row vvv;", -1);
        check.fault("row.v.;", -1);
        check.fault("row ......v;", 4);
        check.fault("row ..;row ..v;", 11);
        check.fault("row .v a;", 7);
    }

    private void rows() {
        check.terms("ROWS, 1 to 6, ahead of all carts, all as long as the first one: y 0 is the first one, "
                + "x 0 its first CELL.");
        check.fault("", 0);
        check.fault("row .;".repeat(6), -1);
        check.fault("row .;".repeat(7), 36);
        check.fault("row .;cart a at 0 0 to 0 0;row .;", 27);
        check.fault("row ..;row .;", 11);
        check.fault("row ..;row ...;", 11);
        check.fault("row ..;row ..;row ...;", 18);
        CartPaths paths = Check.of("row #v;row ..;row >.;");
        int[] sorts = {1, 4, 0, 0, 3, 0};
        for (int k = 0; k < sorts.length; k++) {
            check.same("cell " + k, paths.cell(k % 2, k / 2), sorts[k]);
        }
        check.terms("# is a WALL, all others are free; ^ > v <: one leaves it up, right, down, left alone.");
        check.same("free cells", Check.of("row .#^>v<;").count(3), 5);
        int[][] far = {{1, 3, 5, 3}, {3, 1, 3, 5}, {5, 3, 1, 3}, {3, 5, 3, 1}};
        for (int way = 0; way < 4; way++) {
            CartPaths around = Check.of("row ...;row ." + "^>v<".charAt(way) + ".;row ...;");
            int[][] next = {{1, 0}, {2, 1}, {1, 2}, {0, 1}};
            for (int to = 0; to < 4; to++) {
                check.same("far out " + way + to, around.far(1, 1, next[to][0], next[to][1]), far[way][to]);
                check.same("far in " + way + to, around.far(next[to][0], next[to][1], 1, 1), 1);
            }
        }
    }

    private void carts() {
        check.terms("CARTS, at most 5, numbered as they come:");
        check.same("no carts", Check.of("row .;").count(2), 0);
        CartPaths five = Check.of(SIX_CARTS.substring(0, FIVE_CARTS_END));
        check.same("five carts", five.count(2), 5);
        for (int cart = 0; cart < 5; cart++) {
            check.same("number " + cart, five.name(cart, 0), 'a' + cart);
        }
        check.fault(SIX_CARTS, FIVE_CARTS_END);
        check.terms("a PLACE (at, x and y) and a GOAL (to), free CELLS;");
        CartPaths told = Check.of("row ...;row ...;cart a at 2 1 to 1 0;");
        check.same("place", told.cart(0, 0), 8);
        check.same("goal", told.cart(0, 1), 1);
        check.fault("row ^>v<;cart a at 0 0 to 1 0;cart b at 2 0 to 3 0;", -1);
        check.fault("row #.;cart a at 0 0 to 1 0;", 19);
        check.fault("row .#;cart a at 0 0 to 1 0;", 26);
        check.terms("no two have one PLACE, no two one GOAL.");
        check.fault("row ..;cart a at 0 0 to 1 0;cart b at 0 0 to 0 0;", 40);
        check.fault("row ..;cart a at 0 0 to 1 0;cart b at 1 0 to 1 0;", 47);
        check.fault("row ..;cart a at 0 0 to 1 0;cart b at 1 0 to 0 0;", -1);
        check.fault("row ..;cart a at 0 0 to 0 0;cart b at 1 0 to 1 0;", -1);
        check.fault("row ..;row ..;cart a at 0 0 to 0 1;cart b at 0 1 to 0 0;", -1);
    }

    private void faultsOfTokens() {
        check.terms("THE FAULT: the first byte with which no such text goes on "
                + "(a word, a number, CELLS at their first byte:");
        check.fault(" raw ..;", 1);
        check.fault("\n cart", 2);
        check.fault(cart("a  uat 0 0 to 1 0;"), 15);
        check.fault("row ..;x", 7);
        // whatever is wrong behind it
        check.fault("rows .......;x", 0);
        check.fault("row .......;x", 4);
        check.fault("row .#;cart a at 1 0 to 0 0;x", 19);
        check.fault("row .#;cart a at 0 0 to 1 0;x", 26);
        check.fault("row .#;cart a at 1 0 to 1 0;", 19);
        check.fault(cart("abcdefg to 2 2;"), 12);
        check.fault(cart("a at 2 2 at;"), 17);
        check.terms("too long,");
        check.fault("row  ........;", 5);
        check.fault(cart("  abcdefgh at 0 0 to 1 0;"), 14);
        check.fault(cart("a at   012 0 to 1 0;"), 19);
        check.terms("unlike the first ones,");
        check.fault("row ...;row  ..;", 13);
        check.fault("row ...;row  ....;", 13);
        check.terms("a seventh row,");
        check.fault("row .;".repeat(6) + " row .;", 37);
        check.fault("row .;".repeat(6) + "cart a at 0 5 to 0 0;", -1);
        check.terms("a row behind a cart,");
        check.fault("row .;cart a at 0 0 to 0 0; row .;", 28);
        check.terms("a cart ahead of any row,");
        check.fault(" cart a at 0 0 to 0 0;row .;", 1);
        check.terms("a sixth one,");
        check.fault(SIX_CARTS.substring(0, FIVE_CARTS_END) + "  cart", FIVE_CARTS_END + 2);
        check.terms("a NAME told already,");
        check.fault(cart("ab at 0 0 to 0 0;cart  ab at 1 0 to 1 0;"), 35);
        check.fault(cart("ab at 0 0 to 0 0;cart abc at 1 0 to 1 0;"), -1);
        check.fault(cart("ab at 0 0 to 0 0;cart a at 1 0 to 1 0;"), -1);
        check.fault(cart("ab at 0 0 to 0 0;cart ba at 1 0 to 1 0;"), -1);
        check.fault("row ...;cart a at 0 0 to 0 0;cart b at 1 0 to 1 0;cart a at 2 0 to 2 0;", 55);
    }

    private void faultsOfPoints() {
        check.terms("a column, a row that there is not;");
        check.fault(cart("a at 2 0 to 1 0;"), 17);
        check.fault(cart("a at 9 9 to 1 0;"), 17);
        check.fault(cart("a at 0 1 to 1 0;"), 19);
        check.fault(cart("a at 0 0 to 2 0;"), 24);
        check.fault(cart("a at 0 0 to 1 1;"), 26);
        check.fault("row .;row .;cart a at 1 0 to 0 0;", 22);
        check.fault("row .;row .;cart a at 0 1 to 0 2;", 31);
        check.terms("a PLACE, a GOAL that is a WALL, or another one's, at its second number;");
        check.fault("row .#;cart a at 1   0 to 0 0;", 21);
        check.fault("row .#;cart a at 0 0 to 1   0;", 28);
        check.fault("row ..;cart a at 0 0 to 1 0;cart b at 0\n\n0 to 0 0;", 41);
        check.fault("row ..;cart a at 0 0 to 1 0;cart b at 1 0 to 1\n\n0;", 48);
        check.terms("a number goes on as long as digits stand there);");
        check.fault(cart("a at 00 to 1 0;"), 17);
        check.fault(cart("a at 0 0000000000000000 to 1 0;"), 19);
        check.fault(cart("a at 0 0 to 10;"), 24);
        check.fault(cart("a at 4294967296 0 to 1 0;"), 17);
    }

    private void moreMustCome() {
        check.terms("the text's length, if more must come (a row, too).");
        check.fault(" \t\n", 3);
        String[] tokens = {"row", "..", ";", "cart", "ab", "at", "0", "0", "to", "1", "0", ";"};
        StringBuilder text = new StringBuilder();
        for (String token : tokens) {
            text.append(token);
            boolean whole = token.equals(";");
            check.fault(text.toString(), whole ? -1 : text.length());
            text.append(' ');
            check.fault(text.toString(), whole ? -1 : text.length());
        }
    }

    private void newObject() {
        check.promise(1, "No CELLS.");
        CartPaths paths = new CartPaths();
        int[] counts = {0, 0, 0, 0, 1, 0, 0, 0};
        for (int what = 0; what < counts.length; what++) {
            check.same("count " + what, paths.count(what), counts[what]);
        }
        check.same("end of nothing", paths.end(0) ? 1 : 0, 1);
        check.same("end of one", paths.end(1) ? 1 : 0, 0);
        check.same("fault", paths.fault(), -1);
        check.same("undo", paths.undo(), -1);
        check.same("octet", paths.octet(0), -1);
        check.noPlace("cell", () -> paths.cell(0, 0));
        check.noPlace("tell", () -> paths.tell(0, 0, 0));
        check.noPlace("goal", () -> paths.goal(0, 0, 0));
        check.noPlace("far", () -> paths.far(0, 0, 0, 0));
        check.noPlace("cart", () -> paths.cart(0, 0));
        check.noPlace("name", () -> paths.name(0, 0));
        check.noPlace("cost", () -> paths.cost(0));
        check.noPlace("alone", () -> paths.alone(0, 0));
        check.noPlace("reach", () -> paths.reach(0));
        check.noPlace("among", () -> paths.among(0));
        check.noPlace("turned", () -> paths.turned(0, 0, 0));
        check.same("byTurns", paths.byTurns(0), 0);
        check.same("bestOrder", paths.bestOrder(false), 0);
        check.noElement("ordered", () -> paths.ordered(0, 0));
        check.noNumber("read of nothing", paths::read);
        check.same("a row must come", paths.fault(), 0);
    }

    private void newObjectHasNoPlans() {
        CartPaths paths = new CartPaths();
        int[] plan = {0, 1, 0, -1, 0, 0};
        int[] node = {-1, 0, 0, -1, 0, 0};
        int[] clash = {0, -1, -1, -1, -1};
        for (int what = 0; what < plan.length; what++) {
            check.same("plan " + what, paths.plan(20, what), plan[what]);
            check.same("node " + what, paths.node(20, 0, what), node[what]);
        }
        for (int what = 0; what < clash.length; what++) {
            check.same("clash " + what, paths.clash(what), clash[what]);
        }
        check.noElement("node 1", () -> paths.node(20, 1, 0));
        check.same("busiest", paths.busiest(20), -1);
        check.same("waits", paths.waits(20), 0);
        check.same("worse", paths.worse(20), 0x3f800000);
        check.same("shared", paths.shared(20, -1), 0);
        check.same("critical", paths.critical(20, 1, false), -1);
        check.same("ended", paths.ended(20, 40), 0);
        check.same("again", paths.again(20, 40), 0);
        check.same("write", paths.write(20, 40), 0);
        check.noPlace("used", () -> paths.used(20, 0, 0, false));
        check.noPlace("without", () -> paths.without(20, 0, 0));
        check.noPlace("who", () -> paths.who(20, 0, 0, 0));
        check.noPlace("at", () -> paths.at(20, 0, 0));
        check.noPlace("late", () -> paths.late(20, 0, 0, 0, 1));
        check.noPlace("near", () -> paths.near(20, 0, 0, true));
        check.noPlace("slack", () -> paths.slack(20, 0, 0));
    }

    private void feed() {
        check.promise(2, "Twenty bytes come behind the TAPE, of each number the highest first: how many it has;");
        for (int place = 0; place < 20; place++) {
            CartPaths paths = new CartPaths();
            int[] numbers = {0x20202020, 0x20202020, 0x20202020, 0x20202020, 0x20202020};
            numbers[place / 4] ^= 0xa0 << 24 - 8 * (place % 4);
            int seen = paths.feed(numbers[0], numbers[1], numbers[2], numbers[3], numbers[4]);
            check.same("first twenty", seen, 20);
            check.noNumber("a byte that is no blank", paths::read);
            check.same("its place", paths.fault(), place);
        }
        CartPaths paths = new CartPaths();
        for (int k = 1; k <= 20; k++) {
            check.same("feed " + k, paths.feed(0x20202020, 0x20202020, 0x20202020, 0x20202020, 0x20202020), 20 * k);
        }
        check.promise(2, "NONE, and none come, if it would have more than 400.");
        CartPaths full = new CartPaths();
        Check.feed(full, blanks(394) + "row .;");
        check.same("feed a full one", full.feed(-1, -1, -1, -1, -1), -1);
        check.same("none came", full.end(401) ? 1 : 0, 0);
        check.same("the text is as it was", full.read(), 0);
        for (int length = 381; length < 400; length++) {
            Check.feed(full, blanks(length - 6) + "row .;");
            check.same("feed beyond 400 from " + length, full.feed(-1, -1, -1, -1, -1), -1);
            check.same("none came to " + length, full.end(length + 1) ? 1 : 0, 0);
            check.same("the text is as it was", full.read(), 0);
        }
        Check.feed(full, blanks(380));
        check.same("up to 400", full.feed(WORD_ROW, 0x2e3b2020, 0x20202020, 0x20202020, 0x20202020), 400);
        check.same("it is read", full.read(), 0);
    }

    private void end() {
        check.promise(3, "The TAPE has its first n bytes alone: true;");
        CartPaths paths = new CartPaths();
        Check.feed(paths, "row ..;row ..;xxxxxx");
        check.same("all of it", paths.end(20) ? 1 : 0, 1);
        check.same("fourteen", paths.end(14) ? 1 : 0, 1);
        check.same("what was behind is gone", paths.end(15) ? 1 : 0, 0);
        check.same("seven", paths.end(7) ? 1 : 0, 1);
        check.same("feed behind them", paths.feed(WORD_ROW, 0x2e2e3b20, 0x20202020, 0x20202020, 0x20202020), 27);
        check.same("read", paths.read(), 0);
        check.same("two rows", paths.count(1), 2);
        // what stood behind the end is no part of the text, be it in the midst of a word, a number or cells
        String whole = "row ...;row ...;cart abcdef at 0 0 to 12345;";
        for (int n = 0; n < whole.length(); n++) {
            CartPaths cut = new CartPaths();
            Check.feed(cut, whole);
            cut.end(n);
            check.same("fault of the first " + n, faultOf(cut), new Oracle().parse(whole.substring(0, n)));
        }
        check.promise(3, "false, and nothing happens, if it has fewer, or n is below 0.");
        Check.feed(paths, "row ...;");
        for (int n : new int[] {9, 20, 400, Integer.MAX_VALUE, -1, -8, Integer.MIN_VALUE}) {
            check.same("end of " + n, paths.end(n) ? 1 : 0, 0);
        }
        check.same("nothing happened", paths.read(), 0);
        check.same("three columns", paths.count(0), 3);
        check.same("an empty one has fewer than one", paths.end(1) ? 1 : 0, 0);
        check.same("an empty one has none", paths.end(0) ? 1 : 0, 1);
    }

    private static int faultOf(CartPaths paths) {
        try {
            paths.read();
        } catch (IllegalArgumentException e) {
            return paths.fault();
        }
        return -1;
    }

    private void read() {
        check.promise(4, "Uses the TAPE up:");
        CartPaths paths = Check.of("row ...;cart a at 0 0 to 2 0;cart b at 1 0 to 1 0;");
        check.same("used up", paths.end(1) ? 1 : 0, 0);
        check.noNumber("nothing to read", paths::read);
        Check.feed(paths, "row ...");
        check.noNumber("a wrong text", paths::read);
        check.same("used up too", paths.end(1) ? 1 : 0, 0);
        check.promise(4, "it is THE TEXT (in place of the one before; nothing can be undone): how many CARTS.");
        paths.tell(2, 0, 3);
        Check.feed(paths, "row .;row .;cart z at 0 1 to 0 0;");
        check.same("carts", paths.read(), 1);
        check.same("columns", paths.count(0), 1);
        check.same("rows", paths.count(1), 2);
        check.noPlace("the old second cart", () -> paths.cart(1, 0));
        check.noPlace("the old second column", () -> paths.cell(1, 0));
        check.same("acts", paths.count(5), 0);
        check.same("undo", paths.undo(), -1);
        check.same("plan", paths.plan(10, 0), 1);
        Check.feed(paths, "row .;");
        check.same("no carts", paths.read(), 0);
        check.same("no cart is left", paths.count(2), 0);
        check.promise(4, "IllegalArgumentException: the text is wrong.");
        paths.tell(0, 0, 5);
        Check.feed(paths, "row ..;row ..;cart a at 0 0 to 2 0;");
        check.noNumber("wrong at its end", paths::read);
        check.same("columns stay", paths.count(0), 1);
        check.same("carts stay", paths.count(2), 0);
        check.same("cells stay", paths.cell(0, 0), 5);
        check.same("acts stay", paths.undo(), 0);
    }

    private void faultAndCell() {
        check.promise(5, "THE FAULT of the latest read(); NONE without one, and ahead of any.");
        CartPaths paths = new CartPaths();
        check.same("ahead of any", paths.fault(), -1);
        Check.feed(paths, "row ..;x");
        check.same("ahead of any, with a tape", paths.fault(), -1);
        check.noNumber("wrong", paths::read);
        check.same("at 7", paths.fault(), 7);
        Check.feed(paths, "row ..;");
        check.same("until the next read", paths.fault(), 7);
        check.same("a good one", paths.read(), 0);
        check.same("none", paths.fault(), -1);
        check.noNumber("an empty one", paths::read);
        check.same("at 0", paths.fault(), 0);
        check.promise(6, "The SORT of a CELL.");
        CartPaths signs = Check.of("row .#^;row >v<;");
        for (int sort = 0; sort < 6; sort++) {
            check.same("sort " + sort, signs.cell(sort % 3, sort / 3), sort);
        }
        check.terms("SORTS of CELLS: 0 free, 1 WALL, 2 to 5 left up, right, down, left alone.");
        for (int sort = 5; sort >= 0; sort--) {
            signs.tell(0, 0, sort);
            signs.write(10, 0);
            check.same("sign of " + sort, signs.octet(0), ".#^>v<".charAt(sort));
        }
    }

    private void cartAndName() {
        check.promise(7, "Of a CART what 0 its PLACE, 1 its GOAL (as CELLS' numbers).");
        CartPaths paths = Check.of("row ......;row ......;row ......;row ......;row ......;row ......;"
                + "cart a at 5 5 to 0 0;cart abcdef at 0 5 to 5 0;");
        check.terms("CELLS as numbers: 6 times y, and x.");
        int[] due = {35, 0, 30, 5};
        for (int k = 0; k < 4; k++) {
            check.same("cart " + k, paths.cart(k / 2, k % 2), due[k]);
        }
        check.same("two columns", Check.of("row ..;row ..;cart a at 1 1 to 0 1;").cart(0, 0), 7);
        check.promise(7, "NoSuchElementException: another what.");
        for (int what : new int[] {-1, 2, Integer.MIN_VALUE, Integer.MAX_VALUE}) {
            check.noElement("what " + what, () -> paths.cart(0, what));
        }
        check.promise(8, "Letter k of a CART's NAME; NONE behind it.");
        for (int k = 0; k < 6; k++) {
            check.same("letter " + k, paths.name(1, k), 'a' + k);
        }
        for (int k : new int[] {6, 7, Integer.MAX_VALUE, -1, Integer.MIN_VALUE}) {
            check.same("letter " + k, paths.name(1, k), -1);
        }
        check.same("behind one letter", paths.name(0, 1), -1);
        CartPaths five = Check.of("row .....;cart a at 0 0 to 0 0;cart b at 1 0 to 1 0;cart c at 2 0 to 2 0;"
                + "cart zyxwvu at 3 0 to 3 0;cart fedcba at 4 0 to 4 0;");
        for (int k = 0; k < 6; k++) {
            check.same("letter " + k + " of the fourth", five.name(3, k), 'z' - k);
            check.same("letter " + k + " of the last", five.name(4, k), 'f' - k);
        }
        check.same("behind the last", five.name(4, 6), -1);
        Check.feed(paths, "row ..;cart zz at 0 0 to 0 0;cart y at 1 0 to 1 0;");
        paths.read();
        check.same("a name anew is shorter", paths.name(1, 1), -1);
    }
}
