/** Each sentence of the document that names a bound: what is just within, what is just beyond, and what is refused. */
public final class BoundsTest {
    private BoundsTest() { }

    public static void main(String[] args) {
        TermsBounds.run();
        HoursBounds.run();
        ForesightBounds.run();
        PromiseBounds.run();
        Says.end();
    }
}
