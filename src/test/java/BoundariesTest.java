/** A test of its own for each sentence of the document that names a boundary case. */
public final class BoundariesTest {
    private BoundariesTest() {
    }

    public static void main(String[] args) {
        BoundsOfPieces.all();
        BoundsOfTexts.all();
        BoundsOfMeetings.all();
        BoundsOfJoins.all();
        BoundsOfLooks.all();
        BoundsOfBlows.all();
        BoundsOfGround.all();
        Bounds.end("BoundariesTest");
    }
}
