/** Texts of scenes that several tests look at, and what their plans are. */
final class Scenes {
    /** By its plan a waits once for b: a is in 6, 6, 7, 8, b in 1, 7, 13. */
    static final String CROSSING = "row #.#;row ...;row #.#;cart a at 0 1 to 2 1;cart b at 1 0 to 1 2;";
    /** b stands in a's way on its goal and goes aside, down and up again: a is in 0, 1, 2, b in 1, 7, 1. */
    static final String BAY = "row ...;row #.#;cart a at 0 0 to 2 0;cart b at 1 0 to 1 0;";
    /** By 10 a is in 6, 7, 1 (sum 5, node 6), by 15 in 6, 6, 7, 1 (sum 6, node 4); b is in 1, 2, 8, 7 by both. */
    static final String LOOSE = "row #..;row ...;cart a at 0 1 to 1 0;cart b at 1 0 to 1 1;";
    /** Four carts that go round at once, each into the cell that the next one leaves. */
    static final String RING = "row ..;row ..;cart a at 0 0 to 1 0;cart b at 1 0 to 1 1;cart c at 1 1 to 0 1;"
            + "cart d at 0 1 to 0 0;";
    /** One way through all cells, without carts. */
    static final String SNAKE = "row >>>>>v;row v<<<<<;row >>>>>v;row v<<<<<;row >>>>>v;row .<<<<<;";
    /** a has no way: no node, no plan. */
    static final String NO_NODE = "row ..#.;cart a at 0 0 to 3 0;cart b at 1 0 to 1 0;";
    /** b must stay on its goal, or it can never come back; a tries at each time to go through, till no node waits. */
    static final String NONE_WAITS = "row .>>;cart a at 0 0 to 2 0;cart b at 1 0 to 1 0;";
    /** Two carts that cannot pass one another: the tree is cut, and every order fails. */
    static final String CUT = "row ...;cart a at 0 0 to 2 0;cart b at 2 0 to 0 0;";
    /** Two carts that stay where they are. */
    static final String STILL = "row ..;cart a at 0 0 to 0 0;cart b at 1 0 to 1 0;";

    private Scenes() {
    }
}
