/** Each sentence of the document that names an edge has a test of its own here, by its promise; all 44 have some. */
public final class EdgesTest {
    public static void main(String[] args) {
        EdgesOfTape.run();
        EdgesOfTexts.run();
        EdgesOfLines.run();
        EdgesOfLand.run();
        EdgesOfDays.run();
        EdgesOfActs.run();
        EdgesOfSources.run();
        EdgesOfRest.run();
        EdgesOfDrawn.run();
        EdgesOfBooks.run();
        EdgesOfSentences.run();
        Due.same("promises that have an edge named", Doc.named(), Doc.PROMISES);
        Due.finish();
    }
}
