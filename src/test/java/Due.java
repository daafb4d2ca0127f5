import java.util.ArrayList;
import java.util.List;

/** What the tests share: comparing answers, and choirs that many of them begin with. */
final class Due {
  /** The sentences of the document that had a test of their own: promise, words. */
  private static final List<String[]> SENTENCES = new ArrayList<>();

  private static int asked = 0;
  private static int wrong = 0;
  private static int askedAhead = 0;
  private static boolean inSentence = false;

  private Due() {
  }

  /** From here on all that is compared belongs to these words of the document, of this promise. */
  static void sentence(int promise, String words) {
    endSentence();
    SENTENCES.add(new String[] {String.valueOf(promise), words});
    askedAhead = asked;
    inSentence = true;
  }

  /** What is compared from here on belongs to no sentence. */
  static void endSentence() {
    if (inSentence && asked == askedAhead) {
      wrong++;
      System.out.println(heading() + "nothing was compared");
    }
    inSentence = false;
  }

  private static String heading() {
    if (!inSentence) return "";
    String[] last = SENTENCES.get(SENTENCES.size() - 1);
    return "promise " + last[0] + " [" + last[1] + "]: ";
  }

  static List<String[]> sentences() {
    return SENTENCES;
  }

  static void is(String call, long got, long want) {
    asked++;
    if (got != want) {
      wrong++;
      System.out.println(heading() + call + " answered " + got + ", due is " + want);
    }
  }

  /** Several answers of one kind of call, told as one row. */
  static void are(String calls, long[] got, long... want) {
    is(calls + ": how many", got.length, want.length);
    for (int i = 0; i < Math.min(got.length, want.length); i++) is(calls + ", at " + i, got[i], want[i]);
  }

  static void end() {
    endSentence();
    if (!SENTENCES.isEmpty()) System.out.println(SENTENCES.size() + " sentences looked at");
    System.out.println(asked + " answers compared, " + wrong + " wrong");
    if (wrong != 0 || asked == 0) System.exit(1);
  }

  /** Feeds a text and takes it as a setting. */
  static int read(ChoirRoof x, String text) {
    for (int i = 0; i < text.length(); i++) x.feed(text.charAt(i));
    return x.setting();
  }

  /** Plain singers who can sing all notes from 0 to 11, singing these. */
  static ChoirRoof choir(int... notes) {
    ChoirRoof x = new ChoirRoof();
    for (int i = 0; i < notes.length; i++) {
      x.singer(0, 0, 0);
      x.sing(i, notes[i]);
    }
    return x;
  }

  static ChoirRoof stones(ChoirRoof x, int... weights) {
    for (int w : weights) x.stone(w);
    return x;
  }

  static long[] trace(ChoirRoof x) {
    int n = x.count(7);
    long[] bodies = new long[n];
    for (int i = 0; i < n; i++) bodies[i] = x.trace(i);
    return bodies;
  }
}
