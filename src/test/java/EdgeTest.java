/** One look for each sentence of the document: its edges, and that every sentence has such a look. */
public final class EdgeTest {
    public static void main(String[] args) {
        Check check = new Check("edge", new Document());
        new EdgeText(check).look();
        new EdgeActs(check).look();
        new EdgeWays(check).look();
        new EdgeTree(check).look();
        new EdgePlan(check).look();
        new EdgeStop(check).look();
        new EdgeTurns(check).look();
        new EdgeCalls(check).look();
        check.allQuoted();
        check.close();
    }
}
