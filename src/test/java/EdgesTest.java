/** Every sentence of the document that names an edge, promise by promise: just within, just beyond, refused. */
public final class EdgesTest {
    public static void main(String[] args) {
        EdgesOfSteps.all();
        EdgesOfChains.all();
        EdgesToM.all();
        EdgesOfAlike.all();
        EdgesOfMultiples.all();
        EdgesOfRaised.all();
        Due.promisesHaveSentences(27);
        Due.end("EdgesTest");
    }
}
