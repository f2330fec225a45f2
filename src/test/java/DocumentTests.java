import java.io.IOException;
import java.nio.file.Path;

/** The examples of the document and of README.md as they stand there, and a test for each sentence of the document. */
public final class DocumentTests extends DocumentRuns {
  public static void main(String[] args) throws IOException {
    Path root = Path.of(args[0]);
    open(root);
    ExampleTests.all(root);
    BoundaryTests.all();
    SentenceTests.all();
    eachSentenceIsQuoted();
    System.out.println(wrong == 0 ? tests + " tests of sentences and examples hold" : wrong + " faults in " + tests + " tests");
    if (wrong != 0) System.exit(1);
  }
}
