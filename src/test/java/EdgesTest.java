import java.nio.file.Path;

/**
 * Every boundary case that the document names, promise by promise: each test quotes the words that it is of, the words
 * must stand in ../shared/DOC.md, and no word of a promise or of the terms may be left without a test.
 */
final class EdgesTest {
    public static void main(String[] args) {
        Due due = new Due("EdgesTest", new Quotes(Path.of("../shared/DOC.md")));
        TextEdges.run(due);
        LawEdges.run(due);
        NightEdges.run(due);
        ActEdges.run(due);
        BetterEdges.run(due);
        ArgumentEdges.run(due);
        due.end();
    }
}
