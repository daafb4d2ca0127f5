/** The edges of promises 36 to 41, sentence by sentence. */
final class EdgesActs {
  private static final int MIN = Integer.MIN_VALUE, MAX = Integer.MAX_VALUE;

  private EdgesActs() {
  }

  static void run() {
    noAct();
    bodies();
    wrapping();
    trace();
    as();
    image();
    undo();
    undoWhole();
    undoSheets();
    undoSettings();
    count();
  }

  /** One of this KIND as number i, v 3; the others are plain. */
  private static ChoirRoof kind(int kind, int i) {
    ChoirRoof x = new ChoirRoof();
    for (int j = 0; j < i; j++) x.singer(0, 0, 0);
    x.singer(kind, 3, 0);
    return x;
  }

  private static void noAct() {
    Due.sentence(36, "0, and no TRACE then: no such SINGER, act.");
    int[][] none = {{-1, 0}, {1, 0}, {6, 0}, {MIN, 2}, {MAX, 2}, {0, -1}, {0, 3}, {0, MIN}, {0, MAX}, {9, 9}};
    for (int[] n : none) {
      ChoirRoof x = kind(4, 0);
      x.act(0, 2, 5);
      Due.is("count(7)", x.count(7), 7);
      Due.is("act(" + n[0] + ", " + n[1] + ", 5)", x.act(n[0], n[1], 5), 0);
      Due.is("count(7): no TRACE", x.count(7), 0);
      for (int i = 0; i < 8; i++) Due.is("trace(" + i + "): no TRACE", x.trace(i), -1);
    }
    Due.is("act(0, 0, 5), nobody", new ChoirRoof().act(0, 0, 5), 0);
  }

  private static void act(int kind, int act, int due, long... bodies) {
    ChoirRoof x = kind(kind, 2);
    String call = "act(2, " + act + ", 5) of KIND " + kind;
    Due.is(call, x.act(2, act, 5), due);
    Due.are("TRACE of " + call, Due.trace(x), bodies);
  }

  private static void bodies() {
    Due.sentence(36, "the body of its KIND, or, if that has none, of the next KIND above that has one");
    act(0, 0, 7, 1);
    act(0, 1, 4, 2, 1);
    act(0, 2, 8, 3, 2, 1);
    act(1, 0, 17, 11, 1);
    act(1, 1, 14, 2, 11, 1);
    act(1, 2, 28, 3, 2, 11, 1);
    act(2, 0, 7, 1);
    act(2, 1, -4, 21, 2, 1);
    act(2, 2, -8, 3, 21, 2, 1);
    act(3, 0, 7, 1);
    act(3, 1, 4, 2, 1);
    act(3, 2, 15, 31, 3, 2, 1);
    act(4, 0, 17, 11, 1);
    act(4, 1, 14, 2, 11, 1);
    act(5, 0, 5, 51, 1);
    act(5, 1, -2, 21, 2, 51, 1);
    act(5, 2, -4, 3, 21, 2, 51, 1);
    act(6, 0, 7, 1);
    act(6, 1, 7, 61, 2, 1);
    act(6, 2, 9, 31, 3, 61, 2, 1);
    Due.sentence(36, "what stands in a body is done from the left on");
    act(4, 2, 30, 41, 3, 2, 11, 1, 11, 1);
  }

  private static void wrapping() {
    Due.sentence(36, "ACTS of a SINGER with x (ints, wrapping)");
    Due.is("sings(MAX)", kind(0, 2).act(2, 0, MAX), MIN + 1);
    Due.is("bears(MIN)", kind(0, 2).act(2, 1, MIN), MIN - 1);
    Due.is("bears(MIN) of the first", kind(0, 0).act(0, 1, MIN), MAX - 2);
    Due.is("tells(1 << 30)", kind(0, 0).act(0, 2, (1 << 30) + 3), MIN);
    Due.is("tells(MAX)", kind(0, 0).act(0, 2, MAX), -8);
    Due.is("x * 3 of a BASS", kind(1, 2).act(2, 0, MAX), MAX);
    Due.is("x * 3 of a BASS, MIN", kind(1, 0).act(0, 0, MIN), MIN);
    Due.is("the other sign of MIN", kind(2, 0).act(0, 1, MIN + 3), MIN);
    Due.is("x - 1 of a DEEP", kind(4, 0).act(0, 2, MIN), 2 * (3 * MAX - 3) + 6);
    Due.is("^ 7 of a STRONG", kind(3, 0).act(0, 2, (1 << 30) + 3), MIN + 7);
    Due.is("^ i of a BREAKING", kind(5, 1).act(1, 0, MAX), MIN + 1);
    Due.is("+ v of a TOLD", kind(6, 2).act(2, 1, MAX), MIN + 1);
  }

  private static void trace() {
    Due.sentence(37, "THE TRACE's i-th body. NONE.");
    ChoirRoof x = kind(4, 0);
    Due.is("trace(0), no act as yet", x.trace(0), -1);
    x.act(0, 2, 5);
    int[] bodies = {41, 3, 2, 11, 1, 11, 1};
    for (int i = 0; i < 7; i++) Due.is("trace(" + i + ")", x.trace(i), bodies[i]);
    for (int i : new int[] {-1, 7, 8, 19, 20, 21, MIN, MAX}) Due.is("trace(" + i + ")", x.trace(i), -1);
    Due.sentence(37, "the numbers of the bodies that ran in the latest act(), as they began; the first 20 are kept.");
    x.act(0, 0, 5);
    Due.is("trace(0), the latest", x.trace(0), 11);
    Due.is("trace(1), the latest", x.trace(1), 1);
    Due.is("trace(2): nothing of the one before", x.trace(2), -1);
    Due.is("count(7)", x.count(7), 2);
    x.beat();
    x.image();
    x.undo();
    Due.is("trace(1): other calls leave it", x.trace(1), 1);
  }

  private static void as() {
    Due.sentence(38, "A SINGER taken for a KIND k (0 .. 6), or one under that: its v. NONE: singer, k; -6: it is of another KIND.");
    String[] under = {"0123456", "14", "25", "36", "4", "5", "6"};
    for (int kind = 0; kind <= 6; kind++) {
      ChoirRoof x = kind(kind, 0);
      for (int k = 0; k <= 6; k++) {
        boolean is = under[k].indexOf('0' + kind) >= 0;
        Due.is("as(0, " + k + ") of KIND " + kind, x.as(0, k), is ? 3 : -6);
      }
      for (int k : new int[] {-1, 7, MIN, MAX}) Due.is("as(0, " + k + ")", x.as(0, k), -1);
      for (int i : new int[] {-1, 1, 6, MIN, MAX}) Due.is("as(" + i + ", 0)", x.as(i, 0), -1);
    }
    ChoirRoof y = new ChoirRoof();
    y.singer(4, 0, 0);
    Due.is("as(0, 1), v 0", y.as(0, 1), 0);
  }

  private static void image() {
    Due.sentence(39, "THE IMAGE is taken: how many SINGERS there are.");
    Due.is("image(), nobody", new ChoirRoof().image(), 0);
    Due.is("image(), six", Due.choir(0, 0, 0, -1, 0, 0).image(), 6);
    ChoirRoof x = Due.choir(0);
    Due.is("image()", x.image(), 1);
    x.singer(0, 0, 0);
    x.tire(0, 7);
    Due.is("image(), a later one", x.image(), 2);
    x.singer(0, 0, 0);
    x.tire(0, 9);
    Due.is("undo(): the later one", x.undo(), 2);
    Due.is("of(0, 4): the later one", x.of(0, 4), 7);
  }

  private static void undo() {
    Due.sentence(40, "All is as THE IMAGE: how many SINGERS. STATE: there is none.");
    ChoirRoof x = Due.choir(0, 4);
    x.tire(0, 5);
    Due.is("undo(), none", x.undo(), -3);
    Due.is("count(0): nothing is changed", x.count(0), 2);
    Due.is("of(0, 4): nothing is changed", x.of(0, 4), 5);
    x.image();
    x.tire(0, 6);
    Due.is("undo()", x.undo(), 2);
    Due.is("of(0, 4)", x.of(0, 4), 5);
    x.tire(0, 7);
    Due.is("undo() again: it is still there", x.undo(), 2);
    Due.is("of(0, 4) again", x.of(0, 4), 5);
    ChoirRoof y = new ChoirRoof();
    y.image();
    y.singer(6, 9, 20);
    y.row(0, 2, 9);
    y.sing(0, 22);
    y.tire(0, 50);
    y.stone(60);
    y.stone(1);
    y.prop(1, true);
    y.beat();
    y.dust(1, 1);
    y.plan(0, 0);
    y.book(0, 0);
    Due.read(y, "ease 9");
    y.feed('x');
    Due.is("undo() to nobody", y.undo(), 0);
    for (int what = 0; what <= 7; what++) Due.is("count(" + what + ")", y.count(what), 0);
    Due.is("told(0)", y.told(0), 0);
    Due.is("told(1)", y.told(1), 3);
    y.singer(6, 1, 0);
    y.stone(2);
    y.stone(3);
    Due.is("of(0, 3): a new one rests", y.of(0, 3), -5);
    Due.is("of(0, 4): a new one is not TIRED", y.of(0, 4), 0);
    Due.is("row(0, 2, 0): a new one's is 0", y.row(0, 2, 0), 0);
    Due.is("at(0, 2): a new one hangs", y.at(0, 2), 0);
    Due.is("at(1, 1): a new one is not PROPPED", y.at(1, 1), 0);
    Due.is("at(1, 0)", y.at(1, 0), 3);
  }

  /** Six singers, six stones and all sheets, each with an own number in it that goes by n. */
  private static ChoirRoof filled(int n) {
    ChoirRoof x = new ChoirRoof();
    for (int i = 0; i < 6; i++) {
      x.singer(i == 5 ? 6 : i, i, 0);
      x.sing(i, i + n);
      x.tire(i, 10 * i + n);
    }
    for (int k = 0; k < 4; k++) x.row(5, k, 2 * k + n);
    for (int s = 0; s < 6; s++) x.stone(30 + s);
    x.prop(n, true);
    fillSheets(x, n);
    return x;
  }

  private static void fillSheets(ChoirRoof x, int n) {
    x.dust(0, 0);
    x.dust(n, 4 + n);
    for (int p = 0; p < 8; p++) x.plan(p % 6, p + n);
    for (int b = 0; b < 8; b++) x.book(b % 6, Math.max(0, x.of(b % 6, 6)) + (b == 7 ? n : 0));
    Due.read(x, "weary " + (7 + n) + ";ease " + n + ";loud 2" + n + " n>4");
    for (char sign : "ease 1".toCharArray()) x.feed(sign);
    x.feed('0' + n);
  }

  private static void undoWhole() {
    Due.sentence(40, "THE IMAGE: all that there is (but THE IMAGE and THE TRACE).");
    for (int n = 0; n <= 1; n++) {
      ChoirRoof x = filled(n);
      long[] before = Seen.of(x);
      Due.is("image()", x.image(), 6);
      for (int i = 0; i < 6; i++) x.sing(i, 11);
      for (int i = 0; i < 6; i++) x.tire(i, 99);
      for (int k = 0; k < 4; k++) x.row(5, k, 9);
      x.sing(2, -1);
      for (int s = 0; s < 6; s++) x.prop(s, s == 3);
      for (int b = 0; b < 3; b++) x.beat();
      x.dust(-1, 0);
      x.plan(-1, 0);
      x.book(-1, 0);
      fillSheets(x, 1 - n);
      x.setting();
      x.feed('l');
      x.act(4, 2, 5);
      Due.is("undo()", x.undo(), 6);
      Due.is("count(7): not THE TRACE", x.count(7), 7);
      Due.is("trace(0): not THE TRACE", x.trace(0), 41);
      x.act(9, 9, 9);
      Due.are("all that is seen", Seen.of(x), before);
      Due.is("setting(): the old tape", x.setting(), 1);
      Due.is("told(1): the old tape", x.told(1), 10 + n);
    }
  }

  /** Each number of each row told by hand is changed alone, and is to come back. */
  private static void undoSheets() {
    Due.sentence(40, "THE IMAGE: all that there is (but THE IMAGE and THE TRACE).");
    ChoirRoof x = Due.stones(Due.choir(0, -1), 5, 1);
    Due.read(x, "draught 10 s=1");
    int[][] dust = {{0, 0}, {1, 1}};
    int[][] others = {{1, 0}, {1, 0}};
    for (int i = 0; i < 2; i++) {
      x.dust(-1, 0);
      x.dust(0, 0);
      x.dust(dust[i][0], dust[i][1]);
      x.image();
      x.dust(-1, 0);
      x.dust(0, 0);
      x.dust(others[i][0], others[i][1]);
      Due.is("flat(), another row of DUST", x.flat(), 0);
      x.undo();
      Due.is("flat(), the row of THE IMAGE", x.flat(), 1);
    }
    x.dust(-1, 0);
    x.book(0, 5);
    x.plan(0, 0);
    x.image();
    for (int[] row : new int[][] {{1, 5, 0}, {0, 4, -1}}) {
      x.book(-1, 0);
      x.book(row[0], row[1]);
      x.plan(-1, 0);
      x.sing(0, -1);
      x.plan(row[0], row[2]);
      Due.is("planned(1), another row of the PLAN", x.planned(1), 0);
      Due.is("looked(), another row of BOOK", x.looked(), 0);
      x.undo();
      Due.is("planned(1), the row of THE IMAGE", x.planned(1), 5);
      Due.is("looked(), the row of THE IMAGE", x.looked(), -5);
    }
  }

  private static void undoSettings() {
    Due.sentence(40, "All is as THE IMAGE");
    ChoirRoof x = Due.choir(0);
    Due.read(x, "loud 1 s=0");
    Due.read(x, "loud 2 s=0");
    x.image();
    for (int round = 0; round < 3; round++) {
      for (int i = 2; i < 5; i++) Due.is("setting()", Due.read(x, "loud 1" + i + " s=0;weary 9"), i);
      Due.is("setting(), a 6.", Due.read(x, "ease 1"), -4);
      Due.is("of(0, 5)", x.of(0, 5), 24);
      Due.is("undo()", x.undo(), 1);
      Due.is("count(2)", x.count(2), 2);
      Due.is("of(0, 5): the second one holds", x.of(0, 5), 12);
      Due.is("told(2): the second one holds", x.told(2), 1);
      Due.is("setting(), a fault", Due.read(x, "loud 30 s=0;x"), -22);
      Due.is("of(0, 5): the second one holds still", x.of(0, 5), 12);
    }
  }

  private static void count() {
    Due.sentence(41, "7 bodies that ran in the latest act() (all, kept or not). NONE.");
    ChoirRoof x = new ChoirRoof();
    for (int what : new int[] {-1, 8, MIN, MAX}) Due.is("count(" + what + ")", x.count(what), -1);
    for (int i = 1; i <= 6; i++) {
      x.singer(4, 0, 0);
      Due.is("count(0)", x.count(0), i);
      x.stone(1);
      Due.is("count(1)", x.count(1), i);
      x.dust(0, 0);
      Due.is("count(3)", x.count(3), i);
    }
    for (int i = 1; i <= 5; i++) {
      Due.read(x, "ease 1");
      Due.is("count(2)", x.count(2), i);
    }
    for (int i = 1; i <= 8; i++) {
      x.plan(0, 0);
      Due.is("count(4)", x.count(4), i);
      x.book(0, 0);
      Due.is("count(5)", x.count(5), i);
    }
    for (int i = 1; i <= 100; i++) {
      x.feed(0);
      Due.is("count(6)", x.count(6), i);
    }
    x.act(0, 2, 5);
    Due.is("count(7)", x.count(7), 7);
    x.act(0, 1, 5);
    Due.is("count(7), the latest", x.count(7), 3);
  }
}
