import java.io.IOException;
import java.nio.file.Files;
import java.nio.file.Path;
import java.util.Set;
import java.util.TreeSet;

/** Each sentence of the document that names a boundary case, with a test of its own and its promise's number. */
public final class EdgesTest {
  private static final int PROMISES = 41;

  public static void main(String[] args) throws IOException {
    EdgesSettings.run();
    EdgesSingers.run();
    EdgesBeats.run();
    EdgesStones.run();
    EdgesOdds.run();
    EdgesActs.run();
    EdgesRefusals.run();
    wordsOfTheDocument(Path.of("../shared/DOC.md"));
    allPromises();
    Due.end();
  }

  /** The sentences are told in the document's own words, so that none is tested that it does not say. */
  private static void wordsOfTheDocument(Path path) throws IOException {
    if (!Files.exists(path)) {
      System.out.println("no " + path + " here: the sentences are not compared with it");
      return;
    }
    String document = Files.readString(path).replaceAll("\\s+", " ");
    for (String[] sentence : Due.sentences()) {
      Due.is("does the document say [" + sentence[1] + "]", document.contains(sentence[1]) ? 1 : 0, 1);
    }
  }

  private static void allPromises() {
    Set<Integer> found = new TreeSet<>();
    for (String[] sentence : Due.sentences()) found.add(Integer.parseInt(sentence[0]));
    for (int promise = 1; promise <= PROMISES; promise++) {
      Due.is("has promise " + promise + " an edge", found.contains(promise) ? 1 : 0, 1);
    }
  }
}
