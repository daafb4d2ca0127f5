import java.io.IOException;
import java.nio.file.Files;
import java.nio.file.Path;
import java.util.ArrayList;
import java.util.List;
import java.util.Set;
import java.util.TreeSet;
import java.util.regex.Matcher;
import java.util.regex.Pattern;

/**
 * Each sentence of the document, with a test of its own and its promise's number: those that name a
 * boundary case in the files Edges*, whole ones with ordinary numbers in the files Whole*.
 */
public final class SentencesTest {
  private static final int PROMISES = 41;
  private static final Path DOCUMENT = Path.of("../shared/DOC.md");

  /** What the chapters of promises say beside sentences: headings, marks, and how a call is written. */
  private static final Pattern[] NO_SENTENCES = {
    Pattern.compile("==== [123] "), Pattern.compile("```(text)?"), Pattern.compile("The constants: "),
    Pattern.compile("Ahead of the calls [^.]*? the interface says: ---- [a-z, ]*[.;]"),
    Pattern.compile("## Promise \\d+: (A new object|[a-z]+) `[^`]*`:")
  };

  public static void main(String[] args) throws IOException {
    EdgesSettings.run();
    EdgesSingers.run();
    EdgesBeats.run();
    EdgesStones.run();
    EdgesOdds.run();
    EdgesActs.run();
    EdgesRefusals.run();
    WholeSingers.run();
    WholeBeats.run();
    WholeStones.run();
    WholeActs.run();
    Due.endSentence();
    allPromises();
    document();
    Due.end();
  }

  private static void document() throws IOException {
    if (!Files.exists(DOCUMENT)) {
      System.out.println("no " + DOCUMENT + " here: the sentences are not compared with it");
      return;
    }
    String document = Files.readString(DOCUMENT).replaceAll("\\s+", " ");
    wordsOfTheDocument(document);
    noSentenceIsLeftOut(document);
    face(document);
  }

  /** The sentences are told in the document's own words, so that none is tested that it does not say. */
  private static void wordsOfTheDocument(String document) {
    for (String[] sentence : Due.sentences()) {
      Due.is("does the document say [" + sentence[1] + "]", document.contains(sentence[1]) ? 1 : 0, 1);
    }
  }

  /** From the first of the terms to the last promise each word stands in a sentence that has a test. */
  private static void noSentenceIsLeftOut(String document) {
    boolean[] tested = new boolean[document.length()];
    for (Pattern pattern : NO_SENTENCES) {
      Matcher m = pattern.matcher(document);
      while (m.find()) mark(tested, m.start(), m.end());
    }
    for (String[] sentence : Due.sentences()) {
      for (int at = document.indexOf(sentence[1]); at >= 0; at = document.indexOf(sentence[1], at + 1)) {
        mark(tested, at, at + sentence[1].length());
      }
    }
    int from = document.indexOf("==== 1 NOTES");
    int to = document.indexOf("## Not promised");
    Due.is("the document has its terms and promises", 0 <= from && from < to ? 1 : 0, 1);
    for (int at = Math.max(0, from); at < to; at++) {
      int begin = at;
      while (at < to && !tested[at]) at++;
      String left = document.substring(begin, at);
      if (left.matches(".*\\w.*")) Due.is("how often a test says [" + left + "]", 0, 1);
    }
  }

  private static void mark(boolean[] tested, int from, int to) {
    for (int i = from; i < to; i++) tested[i] = true;
  }

  private static void allPromises() {
    Set<Integer> found = new TreeSet<>();
    for (String[] sentence : Due.sentences()) found.add(Integer.parseInt(sentence[0]));
    for (int promise = 1; promise <= PROMISES; promise++) {
      Due.is("has promise " + promise + " a sentence", found.contains(promise) ? 1 : 0, 1);
    }
  }

  /** Each call of the public face is there as the document writes it. */
  private static void face(String document) {
    Matcher m = Pattern.compile("public (int|long) (\\w+)\\(([^)]*)\\);").matcher(document);
    int calls = 0;
    while (m.find()) {
      calls++;
      List<Class<?>> types = new ArrayList<>();
      for (String part : m.group(3).split(", ")) {
        if (!part.isEmpty()) types.add(part.startsWith("boolean ") ? boolean.class : int.class);
      }
      boolean is;
      try {
        Class<?> answers = ChoirRoof.class.getMethod(m.group(2), types.toArray(new Class<?>[0])).getReturnType();
        is = answers.getName().equals(m.group(1));
      } catch (NoSuchMethodException e) {
        is = false;
      }
      Due.is("the class has " + m.group(), is ? 1 : 0, 1);
    }
    Due.is("calls of the public face", calls, PROMISES - 1);
  }
}
