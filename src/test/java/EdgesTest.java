/** The edges that the document's sentences name, promise by promise; with the argument 'list' it tells the sentences. */
public final class EdgesTest {
    public static void main(String[] args) {
        EdgesOfCodes.run();
        EdgesOfMatches.run();
        EdgesOfPlay.run();
        EdgesOfPartings.run();
        EdgesOfClubs.run();
        EdgesOfAssociation.run();
        EdgesOfCup.run();
        EdgesOfSheets.run();
        if (args.length > 0 && args[0].equals("list")) {
            Sentences.list();
        }
        Sentences.end();
        Due.end();
    }
}
