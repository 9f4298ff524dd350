import java.io.IOException;

/** Each sentence of the document that names an edge, with a test of its own. */
public final class EdgeTest {
    public static void main(String[] args) throws IOException {
        Sentences.open();
        PeopleEdges.all();
        RuleEdges.all();
        ValleyEdges.all();
        DuesEdges.all();
        PromiseEdges.all();
        Sentences.close();
    }
}
