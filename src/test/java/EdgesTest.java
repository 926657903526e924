/** Each sentence of the document that names a boundary case, by promises; with "rest" told, what no edge quotes, too. */
public final class EdgesTest {
    public static void main(String[] args) throws Exception {
        Edges.open();
        EdgesOfTexts.all();
        EdgesOfWheels.all();
        EdgesOfDays.all();
        EdgesOfDaysAhead.all();
        EdgesOfTales.all();
        Edges.close(args.length > 0 && args[0].equals("rest"));
    }
}
