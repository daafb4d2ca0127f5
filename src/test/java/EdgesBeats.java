/** The edges of promises 14 to 22, sentence by sentence. */
final class EdgesBeats {
  private static final int MIN = Integer.MIN_VALUE, MAX = Integer.MAX_VALUE;

  private EdgesBeats() {
  }

  static void run() {
    on();
    onFallen();
    steady();
    best();
    chord();
    chordOfSeveral();
    needed();
    spare();
    shift();
    shiftSets();
    ill();
    illOfSeveral();
    canon();
    canonGoesRound();
  }

  /** Three in tune, TIRED so: ALL is 6 times their FORCE. */
  private static ChoirRoof three(int tired, int stone) {
    ChoirRoof x = Due.stones(Due.choir(0, 4, 7), stone);
    for (int i = 0; i < 3; i++) x.tire(i, tired);
    return x;
  }

  private static void on() {
    Due.sentence(14, "ON n BEATS (0 .. 40), NOTES staying");
    ChoirRoof x = three(1, 42);
    for (int n : new int[] {-1, 41, MIN, MAX}) {
      Due.is("on(" + n + ", 0)", x.on(n, 0), -2);
      Due.is("on(" + n + ", 1)", x.on(n, 1), -2);
      Due.is("on(" + n + ", 2)", x.on(n, 2), -2);
      Due.is("on(" + n + ", 12)", x.on(n, 12), -2);
    }
    Due.is("on(0, 0)", x.on(0, 0), 0);
    Due.is("on(0, 2)", x.on(0, 2), 60);
    Due.is("on(0, 10)", x.on(0, 10), 1);
    Due.is("on(39, 0)", x.on(39, 0), 0);
    Due.is("on(40, 0)", x.on(40, 0), 1);
    Due.is("on(39, 2)", x.on(39, 2), 36);
    Due.is("on(40, 2)", x.on(40, 2), 36);
    Due.is("on(8, 2)", x.on(8, 2), 60);
    Due.is("on(9, 2): TIRED 10 now", x.on(9, 2), 54);
    Due.sentence(14, "10 and s TIRED of SINGER s; -5. NONE; BAD: n.");
    ChoirRoof y = Due.choir(0, -1);
    y.tire(0, 70);
    y.tire(1, 70);
    for (int what : new int[] {-1, 3, 9, 12, 15, 16, 20, MIN, MAX, MIN + 10, MIN + 11}) Due.is("on(1, " + what + ")", y.on(1, what), -1);
    Due.is("on(28, 10)", y.on(28, 10), 98);
    Due.is("on(29, 10)", y.on(29, 10), 99);
    Due.is("on(30, 10)", y.on(30, 10), 99);
    Due.is("on(23, 11)", y.on(23, 11), 1);
    Due.is("on(24, 11)", y.on(24, 11), 0);
    Due.is("on(25, 11)", y.on(25, 11), 0);
    ChoirRoof z = Due.choir(0, 0, 0, 0, 0, 0);
    Due.is("on(1, 15)", z.on(1, 15), 1);
    Due.is("on(1, 16)", z.on(1, 16), -1);
    Due.is("on(1, 10), nobody", new ChoirRoof().on(1, 10), -1);
  }

  private static void onFallen() {
    Due.sentence(14, "the first BEAT (from 1 on) behind which one more has FALLEN than now (-5: none)");
    ChoirRoof x = three(1, 42);
    Due.is("on(39, 1)", x.on(39, 1), -5);
    Due.is("on(40, 1)", x.on(40, 1), 40);
    ChoirRoof y = Due.stones(new ChoirRoof(), 1);
    Due.is("on(0, 1), one is LOOSE", y.on(0, 1), -5);
    Due.is("on(1, 1), one is LOOSE", y.on(1, 1), 1);
    Due.is("on(40, 1), one is LOOSE", y.on(40, 1), 1);
    y.beat();
    Due.is("on(40, 1), it has fallen", y.on(40, 1), -5);
    ChoirRoof z = Due.stones(Due.choir(0, 4, 7), 54, 60);
    z.beat();
    Due.is("told(5)", z.told(5), 1);
    Due.is("on(18, 1), one has fallen before", z.on(18, 1), -5);
    Due.is("on(40, 1), one has fallen before", z.on(40, 1), 20);
    Due.is("on(40, 1), no stones", Due.choir(0).on(40, 1), -5);
    ChoirRoof w = Due.stones(Due.choir(0, 4, 7), 30, 25);
    Due.read(w, "weary 10");
    Due.is("on(6, 0), falls by the second", w.on(6, 0), 1);
    Due.is("on(7, 0), falls by the second and by the seventh", w.on(7, 0), 2);
    Due.is("on(7, 1), the first of both", w.on(7, 1), 2);
    Due.is("on(40, 1), the first of both", w.on(40, 1), 2);
    Due.sentence(14, "how many STONES have FALLEN behind them");
    Due.is("on(0, 0), one has fallen before", z.on(0, 0), 1);
    Due.is("on(19, 0)", z.on(19, 0), 1);
    Due.is("on(20, 0)", z.on(20, 0), 2);
    Due.is("on(40, 0), six at once", Due.stones(new ChoirRoof(), 1, 1, 1, 1, 1, 1).on(1, 0), 6);
  }

  private static void steady() {
    Due.sentence(15, "the fewest BEATS (0 .. 60) behind which some STONE is LOOSE (-5: none).");
    Due.is("steady(), behind 10", three(0, 60).steady(), 10);
    ChoirRoof x = three(0, 60);
    x.stone(1);
    Due.is("steady(), 61 by 60", x.steady(), 0);
    Due.is("steady(), behind 60", three(0, 25).steady(), 60);
    Due.is("steady(), behind 61", three(9, 24).steady(), -5);
    Due.is("steady(), behind 59", three(1, 25).steady(), 59);
    Due.is("steady(), behind 1", three(9, 60).steady(), 1);
    Due.is("steady(), no stones", Due.choir(0).steady(), -5);
    Due.is("steady(), nobody", Due.stones(new ChoirRoof(), 1).steady(), 0);
    ChoirRoof y = Due.stones(new ChoirRoof(), 1);
    y.beat();
    Due.is("steady(), fallen", y.steady(), -5);
    ChoirRoof z = Due.stones(new ChoirRoof(), 1);
    z.prop(0, true);
    Due.is("steady(), propped", z.steady(), -5);
  }

  /** The best note of one alone that begins at LOW, if this note is loud. */
  private static void bestBy(int low, int loud, int due) {
    ChoirRoof x = new ChoirRoof();
    x.singer(0, 0, low);
    Due.read(x, "loud 9 n=" + loud);
    String call = ", LOW " + low + ", loud " + loud;
    Due.is("best(0, 0)" + call, x.best(0, 0), due);
    Due.is("best(0, 1)" + call, x.best(0, 1), due == loud ? 9 : 5);
  }

  private static void best() {
    Due.sentence(16, "BEST of one: the NOTE in its RANGE by which, did it sing that now, ALL is most");
    bestBy(0, 11, 11);
    bestBy(0, 12, 0);
    bestBy(5, 4, 5);
    bestBy(5, 16, 16);
    bestBy(5, 17, 5);
    bestBy(11, 22, 22);
    bestBy(11, 23, 11);
    bestBy(12, 23, 23);
    bestBy(13, 23, 23);
    bestBy(22, 23, 23);
    bestBy(23, 23, 23);
    ChoirRoof x = Due.choir(0, 6);
    Due.is("best(1, 0): that instead of its own", x.best(1, 0), 0);
    Due.is("best(1, 1): that instead of its own", x.best(1, 1), 20);
    Due.is("of(1, 3): but it is not sung", x.of(1, 3), 6);
    Due.sentence(16, "ALL is most (of several the least); that ALL.");
    Due.is("best(0, 0), all alike", Due.choir(11).best(0, 0), 0);
    Due.is("best(0, 0), all alike, its own is the least", Due.choir(0).best(0, 0), 0);
    Due.is("best(0, 1), all alike, its own is the least", Due.choir(0).best(0, 1), 5);
    Due.is("best(1, 0), its own is not the least", Due.choir(0, 4).best(1, 0), 0);
    ChoirRoof y = Due.choir(11, -1);
    y.singer(2, 0, 4);
    Due.is("best(1, 0): 2, 3, 4, 6, 7, 8, 11 alike", y.best(1, 0), 2);
    Due.is("best(1, 1): 2, 3, 4, 6, 7, 8, 11 alike", y.best(1, 1), 20);
    Due.is("best(2, 0): 14 and not 15", y.best(2, 0), 14);
    Due.is("best(2, 1): 14 and not 15", y.best(2, 1), 25);
    Due.sentence(16, "BEST: what 0 the NOTE, 1 ALL. NONE.");
    for (int what : new int[] {-1, 2, MIN, MAX}) Due.is("best(0, " + what + ")", y.best(0, what), -1);
    for (int i : new int[] {-1, 3, MIN, MAX}) Due.is("best(" + i + ", 0)", y.best(i, 0), -1);
  }

  /** The chord of one alone that begins at LOW, if this note is loud. */
  private static void chordBy(int low, int loud, boolean may) {
    ChoirRoof x = new ChoirRoof();
    x.singer(0, 0, low);
    Due.read(x, "loud 9 n=" + loud);
    String call = ", LOW " + low + ", loud " + loud;
    Due.is("chord(0)" + call, x.chord(0), may ? loud : low);
    Due.is("chord(-1)" + call, x.chord(-1), may ? 9 : 5);
  }

  private static void chord() {
    Due.sentence(17, "each sings a NOTE of its LOW, 2, 4, 5, 7 above it (23 at most each)");
    boolean[] may = {true, false, true, false, true, true, false, true, false, false, false, false};
    for (int low = 0; low <= 16; low++) {
      for (int d = 0; d < 12 && low + d <= 23; d++) chordBy(low, low + d, may[d]);
      if (low > 0) chordBy(low, low - 1, false);
    }
    for (int low = 17; low <= 23; low++) chordBy(low, 23, true);
    chordBy(17, 22, true);
    chordBy(18, 22, true);
    chordBy(19, 22, false);
    chordBy(20, 22, true);
    chordBy(21, 22, false);
    chordBy(22, 22, true);
    Due.sentence(17, "(5 SINGERS at most, else -9)");
    ChoirRoof x = Due.choir(-1, -1, -1, -1, -1);
    Due.is("chord(-1) of five", x.chord(-1), 200);
    Due.is("chord(4) of five", x.chord(4), 0);
    x.singer(0, 0, 0);
    for (int k = -1; k <= 4; k++) Due.is("chord(" + k + ") of six", x.chord(k), -9);
    Due.sentence(17, "k -1 ALL, else the NOTE of SINGER k (-5: there is no such); -9. NONE: k (-1 .. 4).");
    ChoirRoof y = new ChoirRoof();
    Due.is("chord(-1), nobody", y.chord(-1), 0);
    for (int k = 0; k <= 4; k++) Due.is("chord(" + k + "), nobody", y.chord(k), -5);
    for (int k : new int[] {-2, 5, MIN, MAX}) {
      Due.is("chord(" + k + "), nobody", y.chord(k), -1);
      Due.is("chord(" + k + ") of six", x.chord(k), -1);
    }
    ChoirRoof z = Due.choir(-1, -1, -1, -1);
    Due.is("chord(3) of four", z.chord(3), 0);
    Due.is("chord(4) of four", z.chord(4), -5);
  }

  private static void chordOfSeveral() {
    Due.sentence(17, "(of several the first as a row by SINGERS, the lower note first)");
    ChoirRoof x = new ChoirRoof();
    x.singer(0, 0, 0);
    x.singer(0, 0, 1);
    Due.is("chord(-1)", x.chord(-1), 20);
    Due.is("chord(0): 0 and 3, not 2 and 5 or 5 and 1", x.chord(0), 0);
    Due.is("chord(1): 0 and 3, not 0 and 5 or 8", x.chord(1), 3);
    ChoirRoof y = Due.choir(-1, -1);
    Due.read(y, "loud 9 s=0&n=5;loud 9 s=1&n=2;loud 9 s=0&n=2;loud 9 s=1&n=5");
    Due.is("chord(-1): 2 and 2, 2 and 5, 5 and 2, 5 and 5 alike", y.chord(-1), 38);
    Due.is("chord(0): the lower note of the first", y.chord(0), 2);
    Due.is("chord(1): the lower note of the second", y.chord(1), 2);
    ChoirRoof z = Due.choir(-1, -1);
    Due.read(z, "loud 9 s=0&n=7;loud 9 s=1&n=4");
    Due.is("chord(-1): both loud ones", z.chord(-1), 38);
    Due.is("chord(0): ALL goes ahead of the row", z.chord(0), 7);
    Due.is("chord(1): ALL goes ahead of the row", z.chord(1), 4);
  }

  private static void needed() {
    Due.sentence(18, "(of those who sing; of several the first; -5: nobody sings)");
    Due.is("needed(), nobody", new ChoirRoof().needed(), -5);
    Due.is("needed(), all rest", Due.choir(-1, -1).needed(), -5);
    Due.is("needed(), the first rests", Due.choir(-1, 0, 0).needed(), 1);
    Due.is("needed(), all alike", Due.choir(0, 0, 0).needed(), 0);
    Due.is("needed(), the last alone", Due.choir(-1, -1, -1, -1, -1, 3).needed(), 5);
    Due.is("needed(), in tune with both", Due.choir(0, 1, 4).needed(), 2);
    ChoirRoof x = Due.choir(-1, 0);
    Due.read(x, "draught 99 s=1");
    Due.is("needed(), of no FORCE", x.needed(), 1);
  }

  private static void spare() {
    Due.sentence(19, "each of whom could rest now without any STONE more being LOOSE.");
    Due.is("spare(), nobody", new ChoirRoof().spare(), 0);
    Due.is("spare(), all rest", Due.stones(Due.choir(-1, -1), 1).spare(), 0);
    Due.is("spare(), no stones: those who sing", Due.choir(0, -1, 0, -1, -1, 0).spare(), 37);
    Due.is("spare(), 20 left by 20", Due.stones(Due.choir(0, 0, 0), 20).spare(), 7);
    Due.is("spare(), 20 left by 21", Due.stones(Due.choir(0, 0, 0), 21).spare(), 0);
    Due.is("spare(), each alone, not all", Due.stones(Due.choir(0, 0, 0), 6).spare(), 7);
    Due.is("spare(), one LOOSE by 60 or by 20", Due.stones(Due.choir(0, 0, 0), 20, 41).spare(), 7);
    Due.is("spare(), one LOOSE by 60, two by 20", Due.stones(Due.choir(0, 0, 0), 21, 41).spare(), 0);
    Due.is("spare(), all LOOSE already", Due.stones(Due.choir(0, 0), 21).spare(), 3);
  }

  private static void shift() {
    Due.sentence(20, "SHIFT of n BEATS (1 .. 8)");
    ChoirRoof x = Due.choir(0, -1);
    x.tire(1, 50);
    for (int n : new int[] {-1, 0, 9, MIN, MAX}) {
      for (int what = 0; what <= 2; what++) Due.is("shift(" + n + ", " + what + ")", x.shift(n, what), -2);
    }
    x.stone(5);
    Due.is("shift(1, 0)", x.shift(1, 0), 1 + 47);
    Due.is("shift(8, 0)", x.shift(8, 0), 8 + 26);
    Due.sentence(20, "SHIFT: what 0 TIRED, 1 FALLEN, 2 the last set. NONE; BAD: n.");
    for (int what : new int[] {-1, 3, MIN, MAX}) Due.is("shift(1, " + what + ")", x.shift(1, what), -1);
    Due.is("shift(8, 2)", x.shift(8, 2), 1);
    Due.sentence(20, "how many STONES are FALLEN then; the set of the last BEAT.");
    ChoirRoof y = Due.stones(Due.choir(0, 0), 60, 20);
    y.sing(1, -1);
    y.beat();
    Due.is("told(5)", y.told(5), 2);
    Due.is("shift(1, 1), fallen before", y.shift(1, 1), 2);
    Due.is("shift(1, 2), nothing hangs", y.shift(1, 2), 0);
    ChoirRoof z = Due.stones(Due.choir(0, 0), 15, 6);
    Due.is("shift(1, 2), the first BEAT", z.shift(1, 2), 3);
    Due.is("shift(2, 2), the last BEAT: the other has fallen", z.shift(2, 2), 3);
    Due.is("shift(2, 1)", z.shift(2, 1), 1);
  }

  private static void shiftSets() {
    Due.sentence(20, "by which nothing is LOOSE then, with the fewest SINGERS");
    int[][] fewest = {{1, 1}, {5, 1}, {6, 3}, {20, 3}, {21, 7}, {60, 7}};
    for (int[] f : fewest) Due.is("shift(1, 2), by " + f[0], Due.stones(Due.choir(0, 0, 0, 0), f[0]).shift(1, 2), f[1]);
    Due.is("shift(1, 2), no stones", Due.choir(0, 0).shift(1, 2), 0);
    Due.is("shift(1, 0), no stones", Due.choir(0, 0).shift(1, 0), 0);
    ChoirRoof x = new ChoirRoof();
    x.singer(0, 0, 0);
    x.singer(0, 0, 1);
    x.singer(3, 9, 2);
    for (int i = 0; i < 3; i++) x.sing(i, i);
    x.stone(9);
    Due.is("shift(1, 2): one by 9 goes ahead of two by 10", x.shift(1, 2), 4);
    int[][] six = {{60, 60, 0, 15}, {60, 60, 1, 31}, {60, 60, 60, 31}};
    for (int[] s : six) {
      ChoirRoof y = Due.stones(Due.choir(0, 0, 0, 0, 0, 0), s[0], s[1]);
      if (s[2] > 0) y.stone(s[2]);
      Due.is("shift(1, 2) of six, by " + s[0] + ", " + s[1] + ", " + s[2], y.shift(1, 2), s[3]);
      Due.is("shift(1, 0) of six, by " + s[0] + ", " + s[1] + ", " + s[2], y.shift(1, 0), Integer.bitCount(s[3]));
      y.stone(21);
      y.stone(60);
      y.stone(60 - s[2]);
      Due.is("shift(1, 2) of six, the most that they can bear", y.shift(1, 2), 63);
      Due.is("shift(1, 0) of six, the most that they can bear", y.shift(1, 0), 6);
    }
    Due.sentence(20, "that set of those who sing now sings, with their NOTES (all others rest)");
    Due.is("shift(1, 2): who rests now does not sing", Due.stones(Due.choir(-1, 0, -1, 0), 20).shift(1, 2), 10);
    ChoirRoof y = Due.stones(Due.choir(0, 0, 0, 0), 18);
    Due.read(y, "weary 20;ease 9");
    int[] sets = {3, 5, 10, 7, 7, 7, 11, 11};
    for (int n = 1; n <= 8; n++) Due.is("shift(" + n + ", 2), in turns", y.shift(n, 2), sets[n - 1]);
    Due.is("shift(3, 0): they rest in turns", y.shift(3, 0), 31 + 31 + 11 + 20);
    Due.sentence(20, "(of several the least as bits; there is none: all of them)");
    Due.is("shift(1, 2): 3, not 5, 6, 9", Due.stones(Due.choir(0, 0, 0, 0), 20).shift(1, 2), 3);
    Due.is("shift(1, 2): 5, not 9 or 12", Due.stones(Due.choir(0, 1, 0, 0), 20).shift(1, 2), 5);
    ChoirRoof z = Due.stones(Due.choir(0, -1, 0, 0), 60, 1);
    Due.is("shift(1, 2), none", z.shift(1, 2), 13);
    Due.is("shift(1, 1), none", z.shift(1, 1), 1);
    Due.is("shift(1, 0), none", z.shift(1, 0), 3);
    Due.is("shift(1, 2), nobody sings", Due.stones(Due.choir(-1), 1).shift(1, 2), 0);
    Due.is("shift(1, 1), nobody sings", Due.stones(Due.choir(-1), 1).shift(1, 1), 1);
  }

  private static void ill() {
    Due.sentence(21, "(-5: nobody else rests, or it does not sing)");
    Due.is("ill(0), alone", Due.choir(0).ill(0), -5);
    Due.is("ill(0), nobody else rests", Due.choir(0, 0, 0).ill(0), -5);
    Due.is("ill(0), it rests", Due.choir(-1, 0).ill(0), -5);
    Due.is("ill(0), all rest", Due.choir(-1, -1).ill(0), -5);
    Due.is("ill(1), the other one rests", Due.choir(-1, 0).ill(1), 0);
    Due.sentence(21, "ILL; -5. NONE.");
    for (int i : new int[] {-1, 2, 6, MIN, MAX}) Due.is("ill(" + i + ")", Due.choir(0, -1).ill(i), -1);
    Due.sentence(21, "what NOTE of its RANGE, so that ALL is most");
    int[][] by = {{0, 11, 111}, {0, 12, 100}, {5, 4, 105}, {5, 16, 116}, {5, 17, 105}, {12, 23, 123}, {13, 23, 123}, {23, 23, 123}};
    for (int[] b : by) {
      ChoirRoof x = Due.choir(0);
      x.singer(0, 0, b[0]);
      Due.read(x, "loud 9 s=1&n=" + b[1]);
      Due.is("ill(0), LOW " + b[0] + ", loud " + b[1], x.ill(0), b[2]);
    }
    ChoirRoof y = Due.choir(1, -1);
    Due.read(y, "loud 90 s=0");
    Due.is("ill(0): in its place, so not in tune with it", y.ill(0), 100);
  }

  private static void illOfSeveral() {
    Due.sentence(21, "(of several the first, the lesser NOTE): 100 times who, and the NOTE");
    Due.is("ill(0): 1 ahead of 2", Due.choir(0, -1, -1).ill(0), 100);
    Due.is("ill(5): 0 ahead of all", Due.choir(-1, -1, -1, -1, -1, 0).ill(5), 0);
    Due.is("ill(0): the only one is the last", Due.choir(0, 0, 0, 0, 0, -1).ill(0), 500);
    Due.is("ill(0): 1, 4, 5, 6, 8, 9, 10 alike", Due.choir(0, -1, 1).ill(0), 101);
    ChoirRoof x = Due.choir(0, -1, -1);
    Due.read(x, "loud 2 s=2&n=7|s=2&n=9");
    Due.is("ill(0): ALL goes ahead of who is first", x.ill(0), 207);
  }

  private static void canon() {
    Due.sentence(22, "CANON of n BEATS (1 .. 30)");
    ChoirRoof x = three(1, 36);
    for (int n : new int[] {-1, 0, 31, MIN, MAX}) {
      Due.is("canon(" + n + ", 0)", x.canon(n, 0), -2);
      Due.is("canon(" + n + ", 1)", x.canon(n, 1), -2);
    }
    Due.is("canon(29, 1)", x.canon(29, 1), 48);
    Due.is("canon(30, 1)", x.canon(30, 1), 42);
    x.tire(0, 11);
    x.tire(1, 11);
    x.tire(2, 11);
    x.stone(6);
    Due.is("canon(29, 0): 42 by 42", x.canon(29, 0), 0);
    Due.is("canon(30, 0): 42 by 36", x.canon(30, 0), 1);
    Due.sentence(22, "CANON: what 0 FALLEN, 1 the least ALL. NONE; BAD: n.");
    for (int what : new int[] {-1, 2, MIN, MAX}) Due.is("canon(1, " + what + ")", x.canon(1, what), -1);
    Due.is("canon(30, 0), nobody", Due.stones(new ChoirRoof(), 1, 1).canon(30, 0), 2);
    Due.is("canon(30, 1), nobody", new ChoirRoof().canon(30, 1), 0);
    ChoirRoof y = Due.stones(new ChoirRoof(), 1);
    y.beat();
    Due.is("canon(1, 0), fallen before", y.canon(1, 0), 1);
    Due.sentence(22, "the least ALL ahead of any of these BEATS.");
    ChoirRoof z = Due.choir(0);
    Due.read(z, "draught 4 b=1;draught 6 b=2;loud 4 b=3");
    int[] least = {5, 3, 2, 2, 2};
    for (int n = 1; n <= 5; n++) Due.is("canon(" + n + ", 1)", z.canon(n, 1), least[n - 1]);
  }

  private static void canonGoesRound() {
    Due.sentence(22, "one has then the NOTE, or the rest, of the one ahead");
    ChoirRoof x = Due.choir(-1, -1, 0, -1);
    Due.read(x, "draught 9 s=3");
    Due.is("canon(1, 1): 2 sings", x.canon(1, 1), 5);
    Due.is("canon(2, 1): then 3", x.canon(2, 1), 0);
    Due.read(x, "draught 9 s=0");
    Due.is("canon(2, 1): 3 is not 0", x.canon(2, 1), 5);
    Due.is("canon(3, 1): then 0, behind the last", x.canon(3, 1), 0);
    Due.read(x, "draught 9 s=1");
    Due.is("canon(3, 1): 0 is not 1", x.canon(3, 1), 5);
    Due.is("canon(4, 1): then 1", x.canon(4, 1), 0);
    Due.read(x, "draught 9 s=2&b=4");
    Due.is("canon(4, 1): 1 is not 2", x.canon(4, 1), 5);
    Due.is("canon(5, 1): then 2 again", x.canon(5, 1), 0);
    Due.is("canon(30, 1), alone: it is ahead of itself", Due.choir(4).canon(30, 1), 4);
    ChoirRoof six = Due.choir(-1, -1, -1, -1, -1, 0);
    Due.read(six, "draught 9 s=0");
    Due.is("canon(1, 1) of six: the last sings", six.canon(1, 1), 5);
    Due.is("canon(2, 1) of six: then the first", six.canon(2, 1), 0);
    Due.read(six, "draught 9 s=5&b>0");
    Due.is("canon(6, 1) of six: then all the others", six.canon(6, 1), 5);
    Due.is("canon(7, 1) of six: then the last again", six.canon(7, 1), 0);
    Due.sentence(22, "who can not sing it rests");
    ChoirRoof y = Due.choir(11, -1);
    y.singer(0, 0, 12);
    Due.is("canon(2, 1): 1 can", y.canon(2, 1), 5);
    Due.is("canon(3, 1): 2 can not", y.canon(3, 1), 0);
    ChoirRoof both = Due.choir(11);
    both.singer(0, 0, 12);
    both.sing(1, 12);
    Due.is("canon(1, 1): each its own", both.canon(1, 1), 10);
    Due.is("canon(2, 1): neither keeps its own", both.canon(2, 1), 0);
    ChoirRoof z = Due.choir(11);
    z.singer(0, 0, 11);
    z.singer(0, 0, 0);
    Due.is("canon(30, 1): the edges of their ranges", z.canon(30, 1), 5);
    ChoirRoof w = Due.choir(11);
    w.singer(0, 0, 12);
    w.singer(0, 0, 0);
    w.sing(2, 0);
    Due.is("canon(1, 1)", w.canon(1, 1), 10);
    Due.is("canon(2, 1)", w.canon(2, 1), 5);
    Due.is("canon(3, 1): a note that is lost does not come again", w.canon(3, 1), 0);
  }
}
