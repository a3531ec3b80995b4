/** Each clause of the document that could be broken has checks of its own, its boundary cases above all. */
final class EdgeTest {
    public static void main(String[] args) {
        EdgesOfText.all();
        EdgesOfTicks.all();
        EdgesOfBarriers.all();
        EdgesOfLooks.all();
        EdgesOfFailures.all();
        EdgesOfChanges.all();
        EdgesOfForecasts.all();
        Doc.end();
        Check.end("EdgeTest");
    }
}
