/** Each sentence of the document that names a bound is held by runs of its own; none is left out. */
public final class SentencesTest {
    public static void main(String[] args) {
        BoundsOfRows.all();
        BoundsOfTexts.all();
        BoundsOfDays.all();
        BoundsOfForetold.all();
        BoundsOfAsks.all();
        Sentences.ALL.end("SentencesTest");
    }
}
