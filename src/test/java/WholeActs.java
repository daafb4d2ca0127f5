/** Whole sentences of promises 36 to 41 and of the refusals, with ordinary numbers. */
final class WholeActs {
  private WholeActs() {
  }

  static void run() {
    acts();
    trace();
    fullImage();
    lastOfImage();
    count();
    refusals();
  }

  /** The fourth is of this KIND, with v 5. */
  private static ChoirRoof fourth(int kind) {
    ChoirRoof x = Due.choir(-1, -1, -1);
    x.singer(kind, 5, 0);
    return x;
  }

  private static void acts() {
    Due.sentence(36, "ACTS of a SINGER with x (ints, wrapping): sings, bears, tells; i its number. BODIES: SINGER: 1 sings: x + i. "
        + "2 bears: sings(x) - v. 3 tells: bears(x) * 2. BASS: 11 sings: super.sings(x * 3). BOY: 21 bears: -super.bears(x). "
        + "STRONG: 31 tells: super.tells(x) ^ 7. DEEP: 41 tells: super.tells(x - 1) + sings(2). BREAKING: 51 sings: super.sings(x) ^ i. "
        + "TOLD: 61 bears: super.bears(x) + v. sings(..) and so on: the body of its KIND, or, if that has none, of the next KIND above "
        + "that has one; super.sings(..): so from the KIND above the body's on; what stands in a body is done from the left on.");
    int[][] due = {{13, 8, 16}, {33, 28, 56}, {13, -8, -16}, {13, 8, 16 ^ 7}, {33, 28, 2 * (30 - 5) + 9}, {14, -9, -18}, {13, 13, 26 ^ 7}};
    for (int kind = 0; kind <= 6; kind++) {
      ChoirRoof x = fourth(kind);
      for (int act = 0; act <= 2; act++) Due.is("act(3, " + act + ", 10) of KIND " + kind, x.act(3, act, 10), due[kind][act]);
    }
    Due.sentence(36, "An ACT (0 sings, 1 bears, 2 tells) of a SINGER with x. 0, and no TRACE then: no such SINGER, act.");
    for (int[] none : new int[][] {{3, 3}, {4, 0}}) {
      ChoirRoof x = fourth(1);
      Due.is("act(3, 2, -4)", x.act(3, 2, -4), 2 * (-12 + 3 - 5));
      Due.is("act(" + none[0] + ", " + none[1] + ", 10)", x.act(none[0], none[1], 10), 0);
      Due.is("count(7)", x.count(7), 0);
    }
  }

  private static void trace() {
    Due.sentence(37, "THE TRACE: the numbers of the bodies that ran in the latest act(), as they began; the first 20 are kept.");
    int[][][] due = {
      {{1}, {2, 1}, {3, 2, 1}}, {{11, 1}, {2, 11, 1}, {3, 2, 11, 1}}, {{1}, {21, 2, 1}, {3, 21, 2, 1}},
      {{1}, {2, 1}, {31, 3, 2, 1}}, {{11, 1}, {2, 11, 1}, {41, 3, 2, 11, 1, 11, 1}},
      {{51, 1}, {21, 2, 51, 1}, {3, 21, 2, 51, 1}}, {{1}, {61, 2, 1}, {31, 3, 61, 2, 1}}
    };
    for (int kind = 0; kind <= 6; kind++) {
      ChoirRoof x = fourth(kind);
      for (int act = 2; act >= 0; act--) {
        String call = " behind act(3, " + act + ", 10) of KIND " + kind;
        x.act(3, act, 10);
        int[] bodies = due[kind][act];
        Due.is("count(7)" + call, x.count(7), bodies.length);
        for (int i = 0; i < bodies.length; i++) Due.is("trace(" + i + ")" + call, x.trace(i), bodies[i]);
        Due.is("trace(" + bodies.length + ")" + call, x.trace(bodies.length), -1);
      }
    }
  }

  /** All that has a limit is full in the image, and each last one decides an answer. */
  private static void fullImage() {
    Due.sentence(40, "THE IMAGE: all that there is (but THE IMAGE and THE TRACE).");
    ChoirRoof x = Due.stones(Due.choir(0), 20);
    x.singer(3, 1, 0);
    x.sing(1, 4);
    for (int i = 0; i < 5; i++) x.dust(1, 0);
    x.dust(0, 1);
    for (int i = 0; i < 7; i++) x.plan(0, 0);
    x.plan(1, 1);
    for (int i = 0; i < 7; i++) x.book(0, 10);
    x.book(1, 10);
    StringBuilder text = new StringBuilder("loud 11 s=10");
    while (text.length() < 96) text.append("|s=9");
    for (char sign : text.append("|s=0").toString().toCharArray()) x.feed(sign);
    x.image();
    // Of the other rows a number alone, if it were left behind an undo, would make the last one so.
    int[][][] others = {{{40, 1}, {0, 0}, {0, 10}}, {{1, 0}, {0, 1}, {1, 11}}};
    for (int[][] other : others) {
      Due.is("setting()", x.setting(), 0);
      for (int i = 0; i < 100; i++) x.feed('x');
      x.dust(-1, 0);
      x.plan(-1, 0);
      x.book(-1, 0);
      for (int i = 0; i < 6; i++) x.dust(other[0][0], other[0][1]);
      for (int i = 0; i < 8; i++) x.plan(other[1][0], other[1][1]);
      for (int i = 0; i < 8; i++) x.book(other[2][0], other[2][1]);
      Due.is("undo()", x.undo(), 2);
      int[] counts = {2, 1, 0, 6, 8, 8, 100};
      for (int what = 0; what <= 6; what++) Due.is("count(" + what + ")", x.count(what), counts[what]);
      Due.is("flat(): the sixth of DUST is not so", x.flat(), 0);
      Due.is("planned(1): the eighth row, 0 and 1", x.planned(1), 10);
      Due.is("looked(): the eighth row, 11 and not 10", x.looked(), 7);
    }
    Due.is("setting(): the 100 signs", x.setting(), 0);
    Due.is("of(0, 5): the last sign is its number", x.of(0, 5), 21);
  }

  /** The sixth singer and the sixth stone come back, too. */
  private static void lastOfImage() {
    Due.sentence(40, "All is as THE IMAGE: how many SINGERS. STATE: there is none.");
    ChoirRoof x = Due.choir(-1, -1, -1, -1, -1);
    x.singer(6, 8, 10);
    x.sing(5, 17);
    x.tire(5, 40);
    x.row(5, 3, 6);
    Due.stones(x, 1, 1, 1, 1, 1, 9);
    x.prop(5, true);
    Due.is("undo(), no IMAGE", x.undo(), -3);
    Due.is("image()", x.image(), 6);
    x.sing(5, -1);
    x.tire(5, 60);
    x.row(5, 3, 1);
    x.prop(5, false);
    x.beat();
    Due.is("at(5, 2)", x.at(5, 2), 1);
    Due.is("undo()", x.undo(), 6);
    int[] of = {6, 8, 10, 17, 40, 14, 7, 0};
    for (int what = 0; what <= 7; what++) Due.is("of(5, " + what + ")", x.of(5, what), of[what]);
    int[] at = {9, 1, 0, 0};
    for (int what = 0; what <= 3; what++) Due.is("at(5, " + what + ")", x.at(5, what), at[what]);
    Due.is("row(5, 3, 0)", x.row(5, 3, 0), 6);
    x.prop(5, false);
    Due.is("image(), another one", x.image(), 6);
    x.prop(5, true);
    x.beat();
    Due.is("undo(), another one", x.undo(), 6);
    Due.is("at(5, 1), another one", x.at(5, 1), 0);
    Due.is("row(5, 3, 0), another one", x.row(5, 3, 0), 0);
  }

  private static void count() {
    Due.sentence(41, "0 SINGERS, 1 STONES, 2 SETTINGS, 3 of DUST, 4 of the PLAN, 5 rows of BOOK, 6 signs of THE TAPE, 7 bodies that ran in the "
        + "latest act() (all, kept or not). NONE.");
    ChoirRoof x = Due.stones(fourth(4), 1, 2, 3);
    for (int i = 0; i < 2; i++) Due.read(x, "ease 1");
    x.dust(5, 5);
    for (int i = 0; i < 5; i++) x.plan(1, 1);
    for (int i = 0; i < 6; i++) x.book(1, 1);
    for (int i = 0; i < 8; i++) x.feed('a');
    x.act(3, 2, 10);
    int[] counts = {4, 3, 2, 1, 5, 6, 8, 7};
    for (int what = 0; what <= 7; what++) Due.is("count(" + what + ")", x.count(what), counts[what]);
    Due.is("count(9)", x.count(9), -1);
  }

  /** Each call by its constants, on a roof that holds one of each thing. */
  private static void refusals() {
    Due.sentence(3, "REFUSALS, of several the first one told: NONE there is no such SINGER, STONE, KIND, what, part, k, i; BAD a number "
        + "is not as told; STATE as told; FULL. They change nothing.");
    ChoirRoof x = Due.stones(Due.choir(4), 30);
    x.beat();
    long[] before = Seen.of(x);
    long[] none = {
      x.singer(9, 3, 3), x.of(2, 3), x.of(0, 11), x.row(2, 1, 1), x.row(0, 5, 1), x.sing(3, 3), x.tire(2, 3), x.at(2, 0), x.at(0, 6),
      x.prop(3, true), x.told(8), x.on(3, 5), x.on(3, 11), x.best(1, 0), x.best(0, 4), x.chord(7), x.shift(3, 5), x.ill(2), x.canon(3, 4),
      x.critical(3), x.order(7), x.plan(2, 5), x.planned(3), x.book(2, 5), x.trace(3), x.as(2, 0), x.as(0, 8), x.count(11)
    };
    for (int i = 0; i < none.length; i++) Due.is("NONE, call " + i, none[i], ChoirRoof.NONE);
    long[] bad = {
      x.feed(200), x.singer(2, 11, 3), x.singer(2, 3, 33), x.row(0, 1, 12), x.sing(0, 15), x.tire(0, 120), x.stone(80), x.on(50, 0),
      x.shift(12, 0), x.canon(40, 0), x.props(6), x.dust(60, 1), x.dust(3, 8), x.plan(0, 40), x.book(0, 2000)
    };
    for (int i = 0; i < bad.length; i++) Due.is("BAD, call " + i, bad[i], ChoirRoof.BAD);
    long[] state = {x.row(0, 1, 1), x.prop(0, true), x.undo()};
    for (int i = 0; i < state.length; i++) Due.is("STATE, call " + i, state[i], ChoirRoof.STATE);
    long[] no = {x.odds(4), x.mean(60, 0), x.mean(3, 4), x.wage(2, 0), x.wage(0, 4)};
    for (int i = 0; i < no.length; i++) Due.is("NO, call " + i, no[i], ChoirRoof.NO);
    Due.are("all that is seen", Seen.of(x), before);
  }
}
