import java.io.IOException;

/** Every sentence of the document's Terms and of its promises, by a test of its own. */
public final class SentencesTest {
    public static void main(String[] args) throws IOException {
        Edges e = new Edges();
        FindingsEdges.all(e);
        TermsEdges.all(e);
        RollingEdges.all(e);
        LaneEdges.all(e);
        MinutesEdges.all(e);
        RollEdges.all(e);
        DayEdges.all(e);
        WheelEdges.all(e);
        TextsEdges.all(e);
        SheetsEdges.all(e);
        ImagesEdges.all(e);
        e.end();
    }
}
