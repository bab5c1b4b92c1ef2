import java.util.Random;

/** Promises 1 to 8: the tape, the text and its fault, cells and carts as told. */
public final class TextTest {
    private static final String SCENE = "row >.#.;row #..#;cart a at 0 0 to 1 1;cart bob at 3 0 to 2 1;";
    private static final Check CHECK = new Check("text");

    public static void main(String[] args) {
        newObject();
        feedAndEnd();
        readTellsTheScene();
        readKeepsWhatWasWhenItFails();
        readTakesThePlaceOfTheOneBefore();
        goodTexts();
        faultsOfRows();
        faultsOfCarts();
        faultsOfPlaces();
        faultsAtTheEnd();
        faultsOfStrangeTexts();
        CHECK.close();
    }

    private static void newObject() {
        CartPaths paths = new CartPaths();
        int[] due = {0, 0, 0, 0, 1, 0, 0, 0, -1};
        for (int what = 0; what < due.length; what++) {
            CHECK.same("new count " + what, paths.count(what), due[what]);
        }
        CHECK.same("new fault", paths.fault(), -1);
        CHECK.noPlace("new cell", () -> paths.cell(0, 0));
        CHECK.noPlace("new cart", () -> paths.cart(0, 0));
        CHECK.noPlace("new name", () -> paths.name(0, 0));
        CHECK.same("new plan", paths.plan(10, 0), 0);
        CHECK.same("new plan's end", paths.plan(10, 3), -1);
        CHECK.same("new plan's low", paths.plan(10, 4), 0);
        CHECK.same("new plan's node", paths.plan(10, 5), 0);
        CHECK.same("new written", paths.octet(0), -1);
    }

    private static void feedAndEnd() {
        CartPaths paths = new CartPaths();
        CHECK.same("end of more than there is", paths.end(1) ? 1 : 0, 0);
        for (int k = 1; k <= 20; k++) {
            CHECK.same("feed " + k, paths.feed(0, 0, 0, 0, 0), 20 * k);
        }
        CHECK.same("feed beyond 400", paths.feed(1, 2, 3, 4, 5), -1);
        CHECK.same("end below 0", paths.end(-1) ? 1 : 0, 0);
        CHECK.same("end of 401", paths.end(401) ? 1 : 0, 0);
        CHECK.same("end of 400", paths.end(400) ? 1 : 0, 1);
        CHECK.same("end of 381", paths.end(381) ? 1 : 0, 1);
        CHECK.same("feed beyond 400 by one", paths.feed(0, 0, 0, 0, 0), -1);
        CHECK.same("end of 380", paths.end(380) ? 1 : 0, 1);
        CHECK.same("feed up to 400", paths.feed(0, 0, 0, 0, 0), 400);
        CHECK.same("end of 0", paths.end(0) ? 1 : 0, 1);
        CHECK.same("feed the first", paths.feed(0x726f7720, 0x2e2e2e3b, -1, -1, -1), 20);
        CHECK.same("end of 8", paths.end(8) ? 1 : 0, 1);
        CHECK.same("read of row ...;", paths.read(), 0);
        CHECK.same("the tape is used up", paths.end(1) ? 1 : 0, 0);
        CHECK.same("columns", paths.count(0), 3);
        // what stood behind the end is no part of the text
        String whole = "row ...;row ...;cart ab at 0 0 to 12;";
        for (int end = 0; end < whole.length(); end++) {
            Check.feed(paths, whole);
            paths.end(end);
            int due = new Oracle().parse(whole.substring(0, end));
            if (due < 0) {
                CHECK.same("read up to " + end, paths.read(), 0);
            } else {
                CHECK.noNumber("read up to " + end, paths::read);
            }
            CHECK.same("fault up to " + end, paths.fault(), due);
        }
    }

    private static void readTellsTheScene() {
        CartPaths paths = new CartPaths();
        Check.feed(paths, SCENE);
        CHECK.same("read", paths.read(), 2);
        CHECK.same("fault", paths.fault(), -1);
        int[] sorts = {3, 0, 1, 0, 1, 0, 0, 1};
        for (int k = 0; k < sorts.length; k++) {
            CHECK.same("cell " + k, paths.cell(k % 4, k / 4), sorts[k]);
        }
        CHECK.noPlace("column 4", () -> paths.cell(4, 0));
        CHECK.noPlace("row 2", () -> paths.cell(0, 2));
        CHECK.noPlace("column -1", () -> paths.cell(-1, 0));
        CHECK.noPlace("row -1", () -> paths.cell(0, -1));
        CHECK.same("place of a", paths.cart(0, 0), 0);
        CHECK.same("goal of a", paths.cart(0, 1), 7);
        CHECK.same("place of bob", paths.cart(1, 0), 3);
        CHECK.same("goal of bob", paths.cart(1, 1), 8);
        CHECK.noElement("what 2", () -> paths.cart(0, 2));
        CHECK.noElement("what -1", () -> paths.cart(0, -1));
        CHECK.noPlace("cart 2", () -> paths.cart(2, 9));
        CHECK.noPlace("cart -1", () -> paths.cart(-1, 0));
        CHECK.same("b", paths.name(1, 0), 'b');
        CHECK.same("o", paths.name(1, 1), 'o');
        CHECK.same("last b", paths.name(1, 2), 'b');
        CHECK.same("behind bob", paths.name(1, 3), -1);
        CHECK.same("ahead of bob", paths.name(1, -1), -1);
        CHECK.same("behind a", paths.name(0, 1), -1);
        CHECK.noPlace("name of cart 2", () -> paths.name(2, 0));
        CHECK.noPlace("name of cart -1", () -> paths.name(-1, 0));
        CartPaths signs = Check.of("row .#^>v<;");
        for (int sort = 0; sort < 6; sort++) {
            CHECK.same("sort " + sort, signs.cell(sort, 0), sort);
        }
    }

    private static void readKeepsWhatWasWhenItFails() {
        CartPaths paths = Check.of(SCENE);
        paths.tell(1, 0, 4);
        Check.feed(paths, "row ..;row .;");
        CHECK.noNumber("wrong text", paths::read);
        CHECK.same("its fault", paths.fault(), 12 - 1);
        CHECK.same("columns stay", paths.count(0), 4);
        CHECK.same("carts stay", paths.count(2), 2);
        CHECK.same("cells stay", paths.cell(1, 0), 4);
        CHECK.same("acts stay", paths.count(5), 1);
        CHECK.same("the wrong text is used up", paths.end(1) ? 1 : 0, 0);
        CHECK.same("undo goes on", paths.undo(), 0);
        CHECK.same("cells as ahead", paths.cell(1, 0), 0);
    }

    private static void readTakesThePlaceOfTheOneBefore() {
        CartPaths paths = Check.of(SCENE);
        paths.tell(1, 0, 4);
        Check.feed(paths, "row #");
        CHECK.noNumber("wrong text", paths::read);
        Check.feed(paths, "row ..;cart z at 1 0 to 0 0;");
        CHECK.same("read anew", paths.read(), 1);
        CHECK.same("no fault any more", paths.fault(), -1);
        CHECK.same("columns anew", paths.count(0), 2);
        CHECK.same("rows anew", paths.count(1), 1);
        CHECK.same("nothing can be undone", paths.undo(), -1);
        CHECK.same("name anew", paths.name(0, 0), 'z');
        CHECK.same("cost anew", paths.cost(0), 1);
        CHECK.same("plan anew", paths.plan(10, 0), 1);
        CHECK.same("turns anew", paths.byTurns(0), 1);
    }

    private static void goodTexts() {
        CHECK.fault("row .;", -1);
        CHECK.fault(" row\t.\n;  ", -1);
        CHECK.fault("row v;", -1);
        CHECK.fault("row .v.;row v..;", -1);
        CHECK.fault("row......;", -1);
        CHECK.fault("row .;row .;row .;row .;row .;row .;", -1);
        CHECK.fault("row .....;cart a at0 0to 0 0;cart b at 1 0 to 1 0;cart c at 2 0 to 2 0;"
                + "cart d at 3 0 to 3 0;cart e at 4 0 to 4 0;", -1);
        CHECK.fault("row ..;cart rowx at 0 0 to 0 0;cart abcdef at 1 0 to 1 0;", -1);
        CHECK.fault("row ..;cart a at 0 0 to 1 0;cart b at 1 0 to 0 0;", -1);
        CHECK.fault("row ..;cart\na\nat\n0\n0\nto\n1\n0\n;", -1);
    }

    private static void faultsOfRows() {
        CHECK.fault("rows ...;", 0);
        CHECK.fault("rowv..;", 0);
        CHECK.fault("Row ...;", 0);
        CHECK.fault("row .......;", 4);
        CHECK.fault("row ...;row ..;", 12);
        CHECK.fault("row ...;row ....;", 12);
        CHECK.fault("row ...; ;", 9);
        CHECK.fault("row ;", 4);
        CHECK.fault("row x;", 4);
        CHECK.fault("row ..x;", 6);
        CHECK.fault("row .. ..;", 7);
        CHECK.fault("row ..,", 6);
        CHECK.fault("row .;row .;row .;row .;row .;row .;row .;", 36);
        CHECK.fault("row ...;cart a at 0 0 to 1 0;row ...;", 29);
        CHECK.fault("row .;\r", 6);
    }

    private static void faultsOfCarts() {
        CHECK.fault("cart a at 0 0 to 0 0;", 0);
        CHECK.fault("row ..;carts a at 0 0 to 0 0;", 7);
        CHECK.fault("row ..;cart row at 0 0 to 0 0;", 12);
        CHECK.fault("row ..;cart cart at 0 0 to 0 0;", 12);
        CHECK.fault("row ..;cart at at 0 0 to 0 0;", 12);
        CHECK.fault("row ..;cart to at 0 0 to 0 0;", 12);
        CHECK.fault("row ..;cart abcdefg at 0 0 to 0 0;", 12);
        CHECK.fault("row ..;cart 1 at 0 0 to 0 0;", 12);
        CHECK.fault("row ..;cart A at 0 0 to 0 0;", 12);
        CHECK.fault("row ..;cart a ta 0 0 to 0 0;", 14);
        CHECK.fault("row ..;cart a at 0 0 ot 0 0;", 21);
        CHECK.fault("row ..;cart a at 0 0 0 0;", 21);
        CHECK.fault("row ..;cart a at 0 0 to 0 0 0;", 28);
        CHECK.fault("row ..;cart ab at 0 0 to 0 0;cart ab at 1 0 to 1 0;", 34);
        CHECK.fault("row ......;cart a at 0 0 to 0 0;cart b at 1 0 to 1 0;cart c at 2 0 to 2 0;"
                + "cart d at 3 0 to 3 0;cart e at 4 0 to 4 0;cart f at 5 0 to 5 0;", 116);
    }

    private static void faultsOfPlaces() {
        CHECK.fault("row ..;cart a at 2 0 to 0 0;", 17);
        CHECK.fault("row ..;cart a at 0 1 to 0 0;", 19);
        CHECK.fault("row ..;cart a at 0 0 to 2 0;", 24);
        CHECK.fault("row ..;cart a at 0 0 to 0 1;", 26);
        CHECK.fault("row ..;cart a at 00 0 to 0 0;", 17);
        CHECK.fault("row ..;cart a at 0 00 to 0 0;", 19);
        CHECK.fault("row ..;cart a at 01 to 0 0;", 17);
        CHECK.fault("row ..;cart a at -1 0 to 0 0;", 17);
        CHECK.fault("row .#;cart a at 1 0 to 0 0;", 19);
        CHECK.fault("row .#;cart a at 0 0 to 1  0;", 27);
        CHECK.fault("row ...;cart a at 0 0 to 1 0;cart b at 0 0 to 2 0;", 41);
        CHECK.fault("row ...;cart a at 0 0 to 1 0;cart b at 2 0 to 1 0;", 48);
    }

    private static void faultsAtTheEnd() {
        CHECK.fault("", 0);
        CHECK.fault("   ", 3);
        CHECK.fault("row", 3);
        CHECK.fault("row ", 4);
        CHECK.fault("row ...", 7);
        CHECK.fault("row ...  ", 9);
        CHECK.fault("row ..;cart", 11);
        CHECK.fault("row ..;cart a", 13);
        CHECK.fault("row ..;cart a at", 16);
        CHECK.fault("row ..;cart a at 0 ", 19);
        CHECK.fault("row ..;cart a at 0 0", 20);
        CHECK.fault("row ..;cart a at 0 0 to 0 0 ", 28);
    }

    /** Good texts with some signs changed, left out or put in, against the plain second reading. */
    private static void faultsOfStrangeTexts() {
        Random random = new Random(7);
        String signs = " ;.#^>v<rowcartto0123459ax\t\n,";
        for (int k = 0; k < 20000; k++) {
            StringBuilder text = new StringBuilder(OracleTest.scene(random));
            for (int changes = random.nextInt(3); changes > 0; changes--) {
                int where = random.nextInt(text.length());
                char sign = signs.charAt(random.nextInt(signs.length()));
                switch (random.nextInt(4)) {
                    case 0:
                        text.setCharAt(where, sign);
                        break;
                    case 1:
                        text.insert(where, sign);
                        break;
                    case 2:
                        text.deleteCharAt(where);
                        break;
                    default:
                        text.setLength(Math.max(1, where));
                        break;
                }
            }
            CHECK.fault(text.toString(), new Oracle().parse(text.toString()));
        }
    }
}
