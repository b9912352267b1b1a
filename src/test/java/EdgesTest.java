import java.io.IOException;
import java.nio.file.Files;
import java.nio.file.Path;

/**
 * The edges that the document names, sentence by sentence: each answer stands under the promise and
 * the words that it is for. Words that the document has not, or that no test is for, are faults, too.
 */
final class EdgesTest {

    /** The second argument is where the document lies. */
    public static void main(String[] args) throws IOException {
        Check check = new Check();
        new TellingEdges(check).run();
        new StateEdges(check).run();
        new ThoughtEdges(check).run();
        new BondsEdges(check).run();
        new FullEdges(check).run();
        new RefusedEdges(check).run();
        if (args.length > 1 && Files.exists(Path.of(args[1]))) {
            new Document(Path.of(args[1])).compare(check);
        } else {
            System.out.println("the document is not there: what the tests quote is not looked up");
        }
        check.finish();
    }
}
