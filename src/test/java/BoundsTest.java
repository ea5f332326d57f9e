/** Each sentence of the document that names a boundary has a test of its own here, told by its own words. */
public final class BoundsTest extends Checks {
    public static void main(String[] args) {
        PortBounds.run();
        TextBounds.run();
        DrawBounds.run();
        TriedBounds.run();
        RowBounds.run();
        ActBounds.run();
        ChangeBounds.run();
        dueSentencesOfAll();
        finish("all boundaries hold");
    }
}
