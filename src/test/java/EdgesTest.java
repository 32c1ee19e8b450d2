import java.io.IOException;

/** Each sentence of the document has a test of its own at the edges that it names. */
public final class EdgesTest {
    private EdgesTest() {
    }

    public static void main(String[] args) throws IOException, NoSuchMethodException {
        Sentences.read();
        MomentEdges.tell();
        CalendarEdges.tell();
        FreeEdges.tell();
        WishEdges.tell();
        WholeEdges.tell();
        ThrowEdges.tell();
        Sentences.untold();
        Checks.end("EdgesTest");
    }
}
