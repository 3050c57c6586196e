/** Each sentence of the document has a test of its own, which begins with its words. */
public final class BoundsTest {
    public static void main(String[] args) {
        TextBounds.all();
        HeightBounds.all();
        EdgeBounds.all();
        ChangeBounds.all();
        ToldBounds.all();
        LookedAtBounds.all();
        FlipBounds.all();
        LineBounds.all();
        SizeBounds.all();
        Document.allHasTests();
        Due.end();
    }
}
