/** Promises 4 to 13. */
public final class SingersTest {
  public static void main(String[] args) {
    singer();
    strengths();
    bears();
    row();
    sing();
    tire();
    stone();
    loose();
    prop();
    told();
    beat();
    Due.end();
  }

  /** Promise 4. */
  private static void singer() {
    ChoirRoof x = new ChoirRoof();
    Due.is("singer(0, 0, 0)", x.singer(0, 0, 0), 0);
    Due.is("singer(6, 9, 23)", x.singer(6, 9, 23), 1);
    Due.is("singer(-1, 0, 0)", x.singer(-1, 0, 0), -1);
    Due.is("singer(7, 10, 24)", x.singer(7, 10, 24), -1);
    Due.is("singer(0, -1, 0)", x.singer(0, -1, 0), -2);
    Due.is("singer(0, 10, 0)", x.singer(0, 10, 0), -2);
    Due.is("singer(0, 0, -1)", x.singer(0, 0, -1), -2);
    Due.is("singer(0, 0, 24)", x.singer(0, 0, 24), -2);
    for (int i = 2; i < 6; i++) Due.is("singer(i, i, i)", x.singer(i, i, i), i);
    Due.is("a 7. singer", x.singer(0, 0, 0), -4);
    Due.is("a 7. singer of no kind", x.singer(7, 0, 0), -1);
    Due.is("a 7. singer with a bad low", x.singer(0, 0, 24), -2);
    Due.is("count(0)", x.count(0), 6);
    long[] facts = new long[5];
    for (int what = 0; what < 5; what++) facts[what] = x.of(1, what);
    Due.are("of(1, 0 to 4)", facts, 6, 9, 23, -5, 0);
    Due.is("of(1, 8)", x.of(1, 8), -1);
    Due.is("of(1, -1)", x.of(1, -1), -1);
    Due.is("of(6, 0)", x.of(6, 0), -1);
    Due.is("of(-1, 0)", x.of(-1, 0), -1);
  }

  private static int force(int kind, int v, int low, int note) {
    ChoirRoof x = new ChoirRoof();
    x.singer(0, 0, 0);
    x.singer(kind, v, low);
    Due.is("of(1, 5) at rest", x.of(1, 5), 0);
    x.sing(1, note);
    return x.of(1, 5);
  }

  /** Promise 5: FORCE by kinds. */
  private static void strengths() {
    Due.is("SINGER", force(0, 9, 3, 8), 10);
    Due.is("BASS at 11", force(1, 9, 5, 11), 12);
    Due.is("BASS at 12", force(1, 9, 5, 12), 8);
    Due.is("BOY at 7", force(2, 9, 0, 7), 11);
    Due.is("BOY at 23", force(2, 9, 23, 23), 19);
    Due.is("STRONG", force(3, 9, 0, 7), 19);
    Due.is("DEEP at 0", force(4, 9, 0, 0), 17);
    Due.is("DEEP at 11", force(4, 9, 0, 11), 15);
    Due.is("DEEP at 12", force(4, 9, 12, 12), 10);
    Due.is("DEEP at 23", force(4, 9, 12, 23), 8);
    Due.is("BREAKING, 1 by 2", force(5, 0, 0, 6), 11);
    Due.is("BREAKING, 1 by 3", force(5, 1, 0, 6), 11);
    Due.is("TOLD", force(6, 4, 0, 6), 14);
    ChoirRoof x = new ChoirRoof();
    x.singer(5, 1, 0);
    x.sing(0, 0);
    for (int b = 0; b < 8; b++) {
      Due.is("BREAKING at beat " + b, x.of(0, 5), b % 3 == 0 ? 0 : 8);
      x.beat();
    }
    ChoirRoof w = new ChoirRoof();
    w.singer(0, 0, 0);
    w.singer(5, 2, 0);
    w.sing(1, 1);
    for (int b = 0; b < 8; b++) {
      Due.is("BREAKING, number 1, at beat " + b, w.of(1, 5), b % 4 == 3 ? 0 : 8);
      w.beat();
    }
    ChoirRoof y = new ChoirRoof();
    y.singer(6, 4, 0);
    y.sing(0, 0);
    for (int k = 0; k < 4; k++) y.row(0, k, k * 3);
    for (int b = 0; b < 8; b++) {
      Due.is("TOLD at beat " + b, y.of(0, 5), 14 + b % 4 * 3);
      y.beat();
    }
    Due.read(y, "draught 15 k=6");
    Due.is("TOLD in a draught", y.of(0, 5), 0);
  }

  /** Promise 5: IN TUNE and BEARS. */
  private static void bears() {
    String tune = "100111011100";
    for (int d = 0; d <= 23; d++) {
      ChoirRoof x = new ChoirRoof();
      x.singer(0, 0, 0);
      x.singer(0, 0, d);
      x.sing(0, 0);
      Due.is("of(0, 7), nobody else sings", x.of(0, 7), 0);
      x.sing(1, d);
      int in = tune.charAt(d % 12) - '0';
      Due.is("of(0, 7) at " + d, x.of(0, 7), in);
      Due.is("of(1, 7) at " + d, x.of(1, 7), in);
      Due.is("of(1, 6) at " + d, x.of(1, 6), in == 1 ? 10 : 5);
    }
    ChoirRoof x = Due.choir(0, 4, 7, 1, -1);
    long[] bears = new long[5];
    for (int i = 0; i < 5; i++) bears[i] = x.of(i, 6);
    Due.are("of(i, 6)", bears, 20, 30, 20, 10, 0);
    Due.is("of(4, 7), it rests", x.of(4, 7), 0);
    Due.is("told(3)", x.told(3), 80);
    x.tire(0, 9);
    Due.is("of(0, 5), TIRED 9", x.of(0, 5), 10);
    x.tire(0, 10);
    Due.is("of(0, 5), TIRED 10", x.of(0, 5), 9);
    Due.is("of(0, 6), TIRED 10", x.of(0, 6), 18);
    x.tire(0, 99);
    Due.is("of(0, 5), TIRED 99", x.of(0, 5), 1);
    ChoirRoof alone = new ChoirRoof();
    alone.singer(3, 1, 0);
    alone.sing(0, 0);
    Due.is("the half of 11", alone.of(0, 6), 5);
  }

  /** Promise 6. */
  private static void row() {
    ChoirRoof x = new ChoirRoof();
    x.singer(6, 0, 0);
    x.singer(3, 0, 0);
    Due.is("row(0, 3, 9)", x.row(0, 3, 9), 0);
    Due.is("row(0, 3, 0)", x.row(0, 3, 0), 9);
    Due.is("row(0, 0, 5)", x.row(0, 0, 5), 0);
    Due.is("row(2, 0, 0)", x.row(2, 0, 0), -1);
    Due.is("row(-1, 0, 0)", x.row(-1, 0, 0), -1);
    Due.is("row(0, 4, 0)", x.row(0, 4, 0), -1);
    Due.is("row(0, -1, 10)", x.row(0, -1, 10), -1);
    Due.is("row(0, 0, 10)", x.row(0, 0, 10), -2);
    Due.is("row(1, 0, -1)", x.row(1, 0, -1), -2);
    Due.is("row(1, 0, 1)", x.row(1, 0, 1), -3);
    Due.is("row(1, 4, 1)", x.row(1, 4, 1), -1);
    Due.is("row(0, 0, 5) again", x.row(0, 0, 5), 5);
  }

  /** Promise 7. */
  private static void sing() {
    ChoirRoof x = new ChoirRoof();
    x.singer(0, 0, 5);
    x.singer(0, 0, 20);
    Due.is("sing(0, 4)", x.sing(0, 4), -2);
    Due.is("sing(0, 17)", x.sing(0, 17), -2);
    Due.is("sing(0, 5)", x.sing(0, 5), -5);
    Due.is("sing(0, 16)", x.sing(0, 16), 5);
    Due.is("sing(0, -2)", x.sing(0, -2), -2);
    Due.is("of(0, 3)", x.of(0, 3), 16);
    Due.is("sing(0, -1)", x.sing(0, -1), 16);
    Due.is("sing(0, -1) again", x.sing(0, -1), -5);
    Due.is("sing(1, 24)", x.sing(1, 24), -2);
    Due.is("sing(1, 23)", x.sing(1, 23), -5);
    Due.is("sing(2, 5)", x.sing(2, 5), -1);
    Due.is("sing(-1, 99)", x.sing(-1, 99), -1);
  }

  /** Promise 8. */
  private static void tire() {
    ChoirRoof x = Due.choir(0);
    Due.is("tire(0, 99)", x.tire(0, 99), 0);
    Due.is("tire(0, 0)", x.tire(0, 0), 99);
    Due.is("tire(0, 100)", x.tire(0, 100), -2);
    Due.is("tire(0, -1)", x.tire(0, -1), -2);
    Due.is("tire(1, 100)", x.tire(1, 100), -1);
    Due.is("of(0, 4)", x.of(0, 4), 0);
  }

  /** Promise 9. */
  private static void stone() {
    ChoirRoof x = new ChoirRoof();
    Due.is("stone(0)", x.stone(0), -2);
    Due.is("stone(61)", x.stone(61), -2);
    Due.is("stone(1)", x.stone(1), 0);
    Due.is("stone(60)", x.stone(60), 1);
    for (int i = 2; i < 6; i++) Due.is("stone(i)", x.stone(i), i);
    Due.is("a 7. stone", x.stone(1), -4);
    Due.is("a 7. stone of no weight", x.stone(0), -2);
    Due.is("count(1)", x.count(1), 6);
    Due.is("at(1, 0)", x.at(1, 0), 60);
  }

  /** Promise 10: these are borne by their numbers, and what hangs behind a loose one is loose. */
  private static void loose() {
    ChoirRoof x = Due.stones(Due.choir(0, 4, 7), 20, 30, 10, 5);
    long[] loose = new long[4];
    for (int i = 0; i < 4; i++) loose[i] = x.at(i, 3);
    Due.are("at(i, 3)", loose, 0, 0, 0, 1);
    Due.is("told(4)", x.told(4), 8);
    ChoirRoof y = Due.stones(Due.choir(0, 4, 7), 20, 41, 10, 5);
    Due.is("told(4): light ones behind a loose one", y.told(4), 14);
    y.prop(1, true);
    Due.is("told(4): the loose one propped", y.told(4), 0);
    Due.is("at(1, 1)", y.at(1, 1), 1);
    Due.is("at(1, 2)", y.at(1, 2), 0);
    Due.is("at(1, 3)", y.at(1, 3), 0);
    Due.is("at(0, 4)", y.at(0, 4), -1);
    Due.is("at(0, -1)", y.at(0, -1), -1);
    Due.is("at(4, 0)", y.at(4, 0), -1);
    Due.is("at(-1, 0)", y.at(-1, 0), -1);
  }

  /** Promise 11. */
  private static void prop() {
    ChoirRoof x = Due.stones(new ChoirRoof(), 5, 5);
    Due.is("prop(0, true)", x.prop(0, true), 0);
    Due.is("prop(0, true) again", x.prop(0, true), 1);
    Due.is("prop(2, true)", x.prop(2, true), -1);
    Due.is("prop(-1, true)", x.prop(-1, true), -1);
    Due.is("beat()", x.beat(), 1);
    Due.is("prop(1, true), fallen", x.prop(1, true), -3);
    Due.is("prop(1, false), fallen", x.prop(1, false), -3);
    Due.is("at(1, 1)", x.at(1, 1), 0);
    Due.is("at(1, 2)", x.at(1, 2), 1);
    Due.is("at(1, 3), fallen", x.at(1, 3), 0);
    Due.is("prop(0, false)", x.prop(0, false), 1);
    Due.is("prop(0, false) again", x.prop(0, false), 0);
    Due.is("beat()", x.beat(), 1);
  }

  /** Promise 12. */
  private static void told() {
    ChoirRoof x = Due.stones(Due.choir(0, 3), 15, 6, 1);
    Due.read(x, "ease 4;weary 6");
    long[] facts = new long[8];
    for (int what = -1; what < 7; what++) facts[what + 1] = x.told(what);
    Due.are("told(-1 to 6)", facts, -1, 0, 4, 6, 20, 6, 0, -1);
    x.beat();
    for (int what = -1; what < 7; what++) facts[what + 1] = x.told(what);
    Due.are("told(-1 to 6) behind a beat", facts, -1, 1, 4, 6, 20, 0, 2, -1);
  }

  /** Promise 13. */
  private static void beat() {
    ChoirRoof x = Due.stones(Due.choir(0, 3, -1, -1), 15, 6, 1);
    x.tire(0, 98);
    x.tire(1, 99);
    x.tire(2, 3);
    x.tire(3, 2);
    Due.is("told(3)", x.told(3), 2);
    Due.is("beat()", x.beat(), 3);
    Due.is("beat() again", x.beat(), 0);
    Due.is("told(0)", x.told(0), 2);
    long[] tired = new long[4];
    for (int i = 0; i < 4; i++) tired[i] = x.of(i, 4);
    Due.are("of(i, 4)", tired, 99, 99, 0, 0);
    ChoirRoof y = Due.stones(Due.choir(0, 3), 20);
    y.tire(0, 9);
    Due.is("what falls is judged before they tire", y.beat(), 0);
    Due.is("but then by the next beat", y.beat(), 1);
    // More calls than are promised, but no other way leads to the last beat.
    ChoirRoof z = Due.choir(0, -1);
    for (int b = 0; b < 99999; b++) z.beat();
    Due.is("told(0), the last beat", z.told(0), 99999);
    Due.is("beat(), the last beat", z.beat(), -3);
    Due.is("told(0), nothing has changed", z.told(0), 99999);
    z.tire(1, 99);
    Due.is("on(33, 11) goes beyond", z.on(33, 11), 0);
  }
}
