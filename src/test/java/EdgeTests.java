import java.nio.file.Files;
import java.nio.file.Path;

/** The document read sentence by sentence: each that names an edge has a test, and no word of it is left without one. */
public final class EdgeTests {
  public static void main(String[] args) throws Exception {
    Edge.read(Files.readString(Path.of(System.getProperty("winter.doc"))));
    EdgesOfCoasts.run();
    EdgesOfLaws.run();
    EdgesOfReads.run();
    EdgesOfActs.run();
    EdgesOfTime.run();
    EdgesOfPlans.run();
    EdgesOfGuesses.run();
    EdgesOfRefusals.run();
    Edge.nothingLeftOver();
    Check.end("EdgeTests");
  }
}
