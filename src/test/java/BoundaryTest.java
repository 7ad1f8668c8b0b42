import java.io.IOException;
import java.nio.file.Path;

/**
 * Each sentence of the document that names a boundary case, with a test of its own, on both sides of the boundary.
 * The document is read: what no test quotes and what is not told here to name no boundary is told as left out.
 */
public final class BoundaryTest {
    /** Words of the document that name no boundary: arguments that the exceptions of their call tell more of. */
    private static final String[] NO_BOUNDARIES = {
        "`street`: the street\n", "`door`: the door\n",
    };
    private static final String[] TOPICS = {
        "Streets.", "Doors.", "Addresses.", "Renumbering.", "Old addresses.", "Joining.", "Merging.", "Letters.", "Walks.", "Exceptions.",
    };

    private BoundaryTest() {
    }

    public static void main(String[] args) throws IOException {
        Document document = new Document(Path.of(args[0], "DOC.md"));
        Boundary.open(document);
        TermsBoundaries.run();
        OldBoundaries.run();
        TownBoundaries.run();
        ExceptionBoundaries.run();
        StreetBoundaries.run();
        DoorBoundaries.run();
        LetterBoundaries.run();
        SumBoundaries.run();
        TruthBoundaries.run();
        leftOut(document);
        Check.end("BoundaryTest");
    }

    private static void leftOut(Document document) {
        for (String topic : TOPICS) {
            document.quote("Terms", topic);
        }
        Check.due("left out of Terms", document.leftOut("Terms").toString(), "[]");
        Check.due("promises", document.promises().size(), 31);
        for (String promise : document.promises()) {
            for (String words : NO_BOUNDARIES) {
                document.quote(promise, words);
            }
            Check.due("left out of " + promise, document.leftOut(promise).toString(), "[]");
        }
    }
}
