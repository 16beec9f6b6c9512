import java.nio.file.Path;

/** One test for each sentence of the document that names a boundary case; the sentences are quoted from it. */
public final class EdgesTest {
  public static void main(String[] args) throws Exception {
    Sentences.read(Path.of(System.getProperty("document", "../shared/DOC.md")));
    TreeEdges.all();
    TextEdges.all();
    ActionEdges.all();
    QuestionEdges.all();
    ScriptEdges.all();
    Sentences.allPromises();
    System.out.println("edges: " + Sentences.sentences + " sentences, " + Sentences.answers + " answers, " + Sentences.wrong + " of them wrong");
    if (Sentences.wrong != 0) System.exit(1);
  }
}
