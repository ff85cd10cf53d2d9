/**
 * Each sentence of the document that names a boundary case, with a test of its own.
 *
 * <p>The tests stand in src/test/edges; each begins with the heading and the words of its sentence,
 * so that one finds it by them. That they are the document's words, and that no sentence is without
 * a test, is looked at in the end.
 */
public final class EdgesTest {
    public static void main(String[] args) {
        EdgesOfUse.look();
        EdgesOfTheScreen.look();
        EdgesOfClients.look();
        EdgesOfMessages.look();
        EdgesOfCaches.look();
        EdgesOfRefusals.look();
        EdgesOfDrawing.look();
        EdgesOfTiles.look();
        EdgesOfJoinAskAnswer.look();
        EdgesOfWhatClientsShow.look();
        EdgesOfCounts.look();
        Sentences.end();
    }
}
