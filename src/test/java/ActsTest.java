/** Promises 36 to 41. */
public final class ActsTest {
  public static void main(String[] args) {
    act();
    actOfNobody();
    wrapping();
    as();
    image();
    imageKeepsTold();
    count();
    Due.end();
  }

  /** One singer of each kind, its number the kind, and its v. */
  private static ChoirRoof kinds() {
    ChoirRoof x = new ChoirRoof();
    int[] v = {3, 2, 4, 5, 1, 6};
    for (int kind = 0; kind < 6; kind++) x.singer(kind, v[kind], 0);
    return x;
  }

  private static void acts(ChoirRoof x, int singer, int act, int due, long... trace) {
    String call = "act(" + singer + ", " + act + ", 5)";
    Due.is(call, x.act(singer, act, 5), due);
    Due.is("count(7) behind " + call, x.count(7), trace.length);
    Due.are("trace behind " + call, Due.trace(x), trace);
    Due.is("trace(" + trace.length + ")", x.trace(trace.length), -1);
    Due.is("trace(-1)", x.trace(-1), -1);
  }

  /** Promises 36 and 37. */
  private static void act() {
    ChoirRoof x = kinds();
    acts(x, 0, 0, 5, 1);
    acts(x, 0, 1, 2, 2, 1);
    acts(x, 0, 2, 4, 3, 2, 1);
    acts(x, 1, 0, 16, 11, 1);
    acts(x, 1, 1, 14, 2, 11, 1);
    acts(x, 1, 2, 28, 3, 2, 11, 1);
    acts(x, 2, 0, 7, 1);
    acts(x, 2, 1, -3, 21, 2, 1);
    acts(x, 2, 2, -6, 3, 21, 2, 1);
    acts(x, 3, 0, 8, 1);
    acts(x, 3, 1, 3, 2, 1);
    acts(x, 3, 2, 1, 31, 3, 2, 1);
    acts(x, 4, 0, 19, 11, 1);
    acts(x, 4, 1, 18, 2, 11, 1);
    acts(x, 4, 2, 40, 41, 3, 2, 11, 1, 11, 1);
    acts(x, 5, 0, 15, 51, 1);
    acts(x, 5, 1, -9, 21, 2, 51, 1);
    acts(x, 5, 2, -18, 3, 21, 2, 51, 1);
    ChoirRoof y = new ChoirRoof();
    y.singer(0, 0, 0);
    y.singer(6, 4, 0);
    acts(y, 1, 0, 6, 1);
    acts(y, 1, 1, 6, 61, 2, 1);
    acts(y, 1, 2, 11, 31, 3, 61, 2, 1);
  }

  private static void actOfNobody() {
    int[][] none = {{6, 0}, {-1, 0}, {0, 3}, {0, -1}};
    for (int[] n : none) {
      ChoirRoof x = kinds();
      x.act(4, 2, 5);
      Due.is("act(" + n[0] + ", " + n[1] + ", 5)", x.act(n[0], n[1], 5), 0);
      Due.is("count(7)", x.count(7), 0);
      Due.is("trace(0)", x.trace(0), -1);
    }
  }

  private static void wrapping() {
    ChoirRoof x = kinds();
    Due.is("x * 3 wraps", x.act(1, 0, Integer.MAX_VALUE), 2147483646);
    Due.is("x + i wraps", x.act(3, 0, Integer.MAX_VALUE), Integer.MIN_VALUE + 2);
    Due.is("less v wraps", x.act(0, 1, Integer.MIN_VALUE), Integer.MAX_VALUE - 2);
    Due.is("twice wraps", x.act(0, 2, 1 << 30), (1 << 31) - 6);
  }

  /** Promise 38. */
  private static void as() {
    ChoirRoof x = kinds();
    int[][] above = {{0}, {1, 0}, {2, 0}, {3, 0}, {4, 1, 0}, {5, 2, 0}};
    for (int i = 0; i < 6; i++) {
      for (int k = 0; k <= 6; k++) {
        boolean is = false;
        for (int a : above[i]) is |= a == k;
        Due.is("as(" + i + ", " + k + ")", x.as(i, k), is ? x.of(i, 1) : -6);
      }
    }
    Due.is("as(0, 7)", x.as(0, 7), -1);
    Due.is("as(0, -1)", x.as(0, -1), -1);
    Due.is("as(6, 0)", x.as(6, 0), -1);
    Due.is("as(-1, 0)", x.as(-1, 0), -1);
    ChoirRoof y = new ChoirRoof();
    y.singer(6, 4, 0);
    long[] as = new long[7];
    for (int k = 0; k < 7; k++) as[k] = y.as(0, k);
    Due.are("as(0, k) of a TOLD one", as, 4, -6, -6, 4, -6, -6, 4);
  }

  /** Promises 39 and 40: singers, stones, settings, beats. */
  private static void image() {
    ChoirRoof x = Due.stones(Due.choir(0, 4), 20, 1);
    Due.read(x, "ease 5;weary 7");
    Due.is("undo(), no image", x.undo(), -3);
    Due.is("image()", x.image(), 2);
    x.singer(6, 7, 3);
    x.row(2, 1, 8);
    x.tire(0, 77);
    x.beat();
    x.sing(1, -1);
    x.prop(0, true);
    x.stone(9);
    Due.read(x, "ease 9;weary 9;loud 9 s=0");
    x.act(0, 2, 5);
    Due.is("undo()", x.undo(), 2);
    Due.is("count(7): no part of the image", x.count(7), 3);
    Due.is("trace(0): no part of the image", x.trace(0), 3);
    Due.is("told(0)", x.told(0), 0);
    Due.is("told(1)", x.told(1), 5);
    Due.is("told(2)", x.told(2), 7);
    Due.is("told(3)", x.told(3), 20);
    Due.is("told(4)", x.told(4), 2);
    Due.is("told(5)", x.told(5), 0);
    Due.is("of(0, 4)", x.of(0, 4), 0);
    Due.is("of(1, 3)", x.of(1, 3), 4);
    Due.is("of(2, 0)", x.of(2, 0), -1);
    Due.is("at(0, 1)", x.at(0, 1), 0);
    Due.is("at(2, 0)", x.at(2, 0), -1);
    Due.is("count(2)", x.count(2), 1);
    Due.is("singer(6, 1, 0)", x.singer(6, 1, 0), 2);
    Due.is("row(2, 1, 0): a new one's is 0", x.row(2, 1, 0), 0);
    Due.is("of(2, 3): a new one rests", x.of(2, 3), -5);
    Due.is("of(2, 4): a new one is not tired", x.of(2, 4), 0);
    Due.is("undo() again", x.undo(), 2);
    Due.is("setting()", Due.read(x, "weary 2"), 1);
    Due.is("told(2)", x.told(2), 2);
    Due.is("undo() once more", x.undo(), 2);
    Due.is("told(2)", x.told(2), 7);
    x.singer(0, 0, 0);
    Due.is("image() anew", x.image(), 3);
    x.singer(0, 0, 0);
    Due.is("undo() to the new one", x.undo(), 3);
  }

  /** Promises 39 and 40: the tape and what is told by hand; a row of a TOLD one. */
  private static void imageKeepsTold() {
    ChoirRoof x = Due.choir(0);
    x.singer(6, 0, 0);
    x.row(1, 2, 5);
    x.feed('e');
    x.feed('a');
    x.dust(3, 3);
    x.plan(0, 5);
    x.book(0, 5);
    x.image();
    x.setting();
    x.row(1, 2, 6);
    x.feed('x');
    x.dust(-1, 0);
    x.dust(0, 0);
    x.dust(0, 0);
    x.plan(-1, 0);
    x.book(-1, 0);
    x.book(0, 6);
    x.book(0, 7);
    Due.is("looked()", x.looked(), 0);
    Due.is("undo()", x.undo(), 2);
    Due.is("row(1, 2, 0)", x.row(1, 2, 0), 5);
    Due.is("count(3)", x.count(3), 1);
    Due.is("count(4)", x.count(4), 1);
    Due.is("count(5)", x.count(5), 1);
    Due.is("count(6)", x.count(6), 2);
    Due.is("looked()", x.looked(), -5);
    Due.is("flat(): the old dust", x.flat(), 0);
    Due.is("planned(1): the old plan", x.planned(1), 5);
    Due.is("setting(): the old tape", Due.read(x, "se 8"), 0);
    Due.is("told(1)", x.told(1), 8);
    ChoirRoof y = Due.choir(0, 0, 0, 0, 0);
    y.singer(6, 0, 0);
    for (int k = 0; k < 4; k++) y.row(5, k, k + 1);
    y.image();
    for (int k = 0; k < 4; k++) y.row(5, k, 9);
    y.undo();
    for (int k = 0; k < 4; k++) Due.is("row(5, " + k + ", 0)", y.row(5, k, 0), k + 1);
  }

  /** Promise 41. */
  private static void count() {
    ChoirRoof x = Due.stones(kinds(), 1, 2, 3, 4, 5);
    for (int i = 0; i < 4; i++) Due.read(x, "ease 1");
    for (int i = 0; i < 3; i++) x.dust(1, 1);
    for (int i = 0; i < 7; i++) x.plan(0, 0);
    for (int i = 0; i < 8; i++) x.book(0, 0);
    for (int i = 0; i < 9; i++) x.feed(9);
    x.act(4, 1, 0);
    long[] counts = new long[10];
    for (int what = -1; what < 9; what++) counts[what + 1] = x.count(what);
    Due.are("count(-1 to 8)", counts, -1, 6, 5, 4, 3, 7, 8, 9, 3, -1);
  }
}
