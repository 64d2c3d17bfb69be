/**
 * Every sentence of DOC.md that names an edge, with its cases: too small, too large, empty, full, a wrap, a refused call that changes nothing.
 * A method p13... is of promise 13, t3... of section 3 of the Terms; each answer that is not as due is told with its promise and sentence.
 */
public final class EdgesTest {
    public static void main(String[] args) {
        EdgesTime.all();
        EdgesBodies.all();
        EdgesSpans.all();
        EdgesMoves.all();
        EdgesRules.all();
        EdgesChoices.all();
        EdgesActs.all();
        Edge.end();
        Due.end();
    }
}
