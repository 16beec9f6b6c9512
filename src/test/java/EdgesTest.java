import java.nio.file.Path;

/** One test for each sentence of the document that names a boundary case; the sentences are quoted from it. */
public final class EdgesTest {
  private static final long PATIENCE = 120000;

  /** No call may fail to end: all of them together take a few seconds. */
  private static void watch() {
    Thread watch = new Thread(() -> {
      try {
        Thread.sleep(PATIENCE);
      } catch (InterruptedException e) {
        return;
      }
      Sentences.fault("a call does not end");
      Runtime.getRuntime().halt(1);
    });
    watch.setDaemon(true);
    watch.start();
  }

  public static void main(String[] args) throws Exception {
    watch();
    Sentences.read(Path.of(System.getProperty("document", "../shared/DOC.md")));
    TreeEdges.all();
    TextEdges.all();
    ActionEdges.all();
    QuestionEdges.all();
    ScriptEdges.all();
    Sentences.allPromises();
    System.out.println("edges: " + Sentences.sentences + " sentences, " + Sentences.answers + " answers, " + Sentences.wrong + " of them wrong");
    System.exit(Sentences.wrong == 0 ? 0 : 1);
  }
}
