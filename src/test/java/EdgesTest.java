/** Each sentence of the document that names a boundary case, by its own test; fails if a sentence is not quoted at all. */
public final class EdgesTest {
    public static void main(String[] args) throws Exception {
        Edges edges = new Edges();
        new EdgesOfBidding(edges).check();
        new EdgesOfTrading(edges).check();
        new EdgesOfQuestions(edges).check();
        new EdgesOfTerms(edges).check();
        new EdgesOfClearing(edges).check();
        new EdgesOfBalance(edges).check();
        edges.end();
    }
}
