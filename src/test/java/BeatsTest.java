/** Promises 14 to 22. */
public final class BeatsTest {
  public static void main(String[] args) {
    on();
    steady();
    best();
    chord();
    needed();
    spare();
    shift();
    shiftWithoutAny();
    ill();
    canon();
    Due.end();
  }

  /** ALL is 60, 54, 48 .. ahead of the beats, by 6 less each. */
  private static ChoirRoof tiring() {
    ChoirRoof x = Due.stones(Due.choir(0, 4, 7), 30, 25);
    Due.read(x, "weary 10");
    return x;
  }

  /** Promise 14. */
  private static void on() {
    ChoirRoof x = tiring();
    long[] fallen = new long[9];
    for (int n = 0; n < 9; n++) fallen[n] = x.on(n, 0);
    Due.are("on(n, 0)", fallen, 0, 0, 1, 1, 1, 1, 1, 2, 2);
    Due.is("on(0, 1)", x.on(0, 1), -5);
    Due.is("on(1, 1)", x.on(1, 1), -5);
    Due.is("on(2, 1)", x.on(2, 1), 2);
    Due.is("on(40, 1)", x.on(40, 1), 2);
    Due.is("on(0, 2)", x.on(0, 2), 60);
    Due.is("on(3, 2)", x.on(3, 2), 42);
    Due.is("on(40, 2)", x.on(40, 2), 6);
    Due.is("on(3, 10)", x.on(3, 10), 30);
    Due.is("on(40, 12)", x.on(40, 12), 99);
    Due.is("on(3, 13)", x.on(3, 13), -1);
    Due.is("on(3, 9)", x.on(3, 9), -1);
    Due.is("on(3, 3)", x.on(3, 3), -1);
    Due.is("on(3, -1)", x.on(3, -1), -1);
    Due.is("on(41, 3)", x.on(41, 3), -1);
    Due.is("on(41, 0)", x.on(41, 0), -2);
    Due.is("on(-1, 10)", x.on(-1, 10), -2);
    Due.is("on(3, Integer.MAX_VALUE)", x.on(3, Integer.MAX_VALUE), -1);
    Due.is("on(3, Integer.MIN_VALUE)", x.on(3, Integer.MIN_VALUE), -1);
    x.beat();
    x.beat();
    Due.is("on(0, 0), one has fallen", x.on(0, 0), 1);
    Due.is("on(4, 1), one has fallen", x.on(4, 1), -5);
    Due.is("on(5, 1), one has fallen", x.on(5, 1), 5);
    Due.is("on(5, 0), one has fallen", x.on(5, 0), 2);
    Due.is("told(0): nothing is changed", x.told(0), 2);
    Due.is("told(5): nothing is changed", x.told(5), 1);
  }

  /** Promise 15. */
  private static void steady() {
    ChoirRoof x = tiring();
    Due.is("steady()", x.steady(), 1);
    x.beat();
    Due.is("steady(), loose now", x.steady(), 0);
    x.beat();
    Due.is("steady(), that one has fallen", x.steady(), 4);
    Due.is("steady(), no stones", Due.choir(0, 4, 7).steady(), -5);
    Due.is("steady(), 25 by 24 at last", Due.stones(Due.choir(0, 4, 7), 25).steady(), 60);
    Due.is("steady(), 24 by 24 at last", Due.stones(Due.choir(0, 4, 7), 24).steady(), -5);
    ChoirRoof y = Due.stones(Due.choir(0, 4, 7), 24);
    Due.read(y, "draught 99 b=1&t>5");
    Due.is("steady(), loose behind 61", y.steady(), -5);
    Due.read(y, "draught 99 b=0&t>5");
    Due.is("steady(), loose behind 60", y.steady(), 60);
  }

  /** Promise 16. */
  private static void best() {
    ChoirRoof x = new ChoirRoof();
    x.singer(0, 0, 0);
    x.singer(0, 0, 1);
    x.singer(0, 0, 22);
    x.singer(2, 0, 4);
    x.sing(0, 0);
    Due.is("best(1, 0), it rests", x.best(1, 0), 3);
    Due.is("best(1, 1), it rests", x.best(1, 1), 20);
    Due.is("best(2, 0), none in tune", x.best(2, 0), 22);
    Due.is("best(2, 1), none in tune", x.best(2, 1), 10);
    x.sing(1, 12);
    Due.is("best(1, 0), it sings", x.best(1, 0), 3);
    Due.is("of(1, 3): nothing is changed", x.of(1, 3), 12);
    x.sing(0, -1);
    x.sing(1, -1);
    Due.is("best(3, 0): the least of several", x.best(3, 0), 12);
    Due.is("best(3, 1)", x.best(3, 1), 7);
    Due.read(x, "loud 9 n=15;loud 50 n=16");
    Due.is("best(3, 0): the highest of its range", x.best(3, 0), 15);
    Due.is("best(3, 2)", x.best(3, 2), -1);
    Due.is("best(3, -1)", x.best(3, -1), -1);
    Due.is("best(4, 0)", x.best(4, 0), -1);
  }

  /** Promise 17. */
  private static void chord() {
    ChoirRoof x = new ChoirRoof();
    Due.is("chord(-1), nobody", x.chord(-1), 0);
    Due.is("chord(0), nobody", x.chord(0), -5);
    x.singer(0, 0, 0);
    x.singer(0, 0, 1);
    Due.is("chord(-1)", x.chord(-1), 20);
    Due.is("chord(0)", x.chord(0), 0);
    Due.is("chord(1)", x.chord(1), 3);
    Due.is("chord(2)", x.chord(2), -5);
    Due.is("chord(5)", x.chord(5), -1);
    Due.is("chord(-2)", x.chord(-2), -1);
    Due.is("of(0, 3): nothing is changed", x.of(0, 3), -5);
    ChoirRoof y = new ChoirRoof();
    y.singer(0, 0, 20);
    Due.read(y, "loud 9 n=23;loud 8 n=21");
    Due.is("chord(0): 23 at most", y.chord(0), 23);
    Due.is("chord(-1): 23 at most", y.chord(-1), 9);
    for (int d = 0; d <= 12; d++) {
      ChoirRoof w = new ChoirRoof();
      w.singer(0, 0, 1);
      Due.read(w, "loud 9 n=" + (1 + d));
      boolean is = d == 0 || d == 2 || d == 4 || d == 5 || d == 7;
      Due.is("chord(0), loud " + d + " above", w.chord(0), is ? 1 + d : 1);
      Due.is("chord(-1), loud " + d + " above", w.chord(-1), is ? 9 : 5);
    }
    ChoirRoof z = Due.choir(-1, -1, -1, -1, -1);
    Due.is("chord(-1) of five: all on one note", z.chord(-1), 200);
    Due.is("chord(4)", z.chord(4), 0);
    Due.read(z, "loud 1 s=4&n=7;loud 1 s=0&n=4");
    Due.is("chord(-1) with 4 and 7", z.chord(-1), 208);
    Due.is("chord(0) with 4 and 7", z.chord(0), 4);
    Due.is("chord(1): the first as a row", z.chord(1), 0);
    Due.is("chord(4) with 4 and 7", z.chord(4), 7);
    z.singer(0, 0, 0);
    Due.is("chord(-1) of six", z.chord(-1), -9);
    Due.is("chord(4) of six", z.chord(4), -9);
    Due.is("chord(5) of six", z.chord(5), -1);
  }

  /** Promise 18. */
  private static void needed() {
    Due.is("needed(), nobody", new ChoirRoof().needed(), -5);
    Due.is("needed(), all rest", Due.choir(-1, -1).needed(), -5);
    Due.is("needed()", Due.choir(0, 4, 7, 1).needed(), 1);
    Due.is("needed(), the only one", Due.choir(0).needed(), 0);
    Due.is("needed(), the first", Due.choir(4, 0, 1, -1).needed(), 0);
    Due.is("needed(): the first of several", Due.choir(-1, 0, 4).needed(), 1);
  }

  /** Promise 19. */
  private static void spare() {
    Due.is("spare(), all rest", Due.choir(-1, -1).spare(), 0);
    Due.is("spare(), no stones", Due.choir(0, -1, 4).spare(), 5);
    Due.is("spare()", Due.stones(Due.choir(0, 4, 7, 1), 40, 20).spare(), 8);
    Due.is("spare(), one is loose now", Due.stones(Due.choir(0, 4, 7, 1), 60, 30).spare(), 8);
    Due.is("spare(), all are loose now", Due.stones(Due.choir(0, 4), 60, 30).spare(), 3);
  }

  /** Promise 20. */
  private static void shift() {
    ChoirRoof x = Due.stones(Due.choir(0, 4, 7, 1), 40, 20);
    Due.is("shift(1, 2)", x.shift(1, 2), 7);
    Due.is("shift(1, 0)", x.shift(1, 0), 3);
    Due.is("shift(1, 1)", x.shift(1, 1), 0);
    Due.is("shift(8, 0)", x.shift(8, 0), 24);
    Due.is("shift(8, 3)", x.shift(8, 3), -1);
    Due.is("shift(9, -1)", x.shift(9, -1), -1);
    Due.is("shift(9, 0)", x.shift(9, 0), -2);
    Due.is("shift(0, 0)", x.shift(0, 0), -2);
    Due.is("shift(1, 2): the least as bits", Due.stones(Due.choir(0, -1, 4, 7), 20).shift(1, 2), 5);
    Due.is("shift(1, 2): nobody is needed", Due.choir(0, 4).shift(1, 2), 0);
    ChoirRoof y = Due.stones(Due.choir(0, 4, 7), 20);
    Due.read(y, "weary 10");
    Due.is("shift(2, 2): rested ones take over", y.shift(2, 2), 7);
    ChoirRoof z = Due.stones(Due.choir(0, 0, 0, 0), 18);
    Due.read(z, "weary 20;ease 9");
    long[] sets = new long[8];
    for (int n = 1; n <= 8; n++) sets[n - 1] = z.shift(n, 2);
    Due.are("shift(n, 2): each in its turn", sets, 3, 5, 10, 7, 7, 7, 11, 11);
    Due.is("shift(3, 0): all others rest", z.shift(3, 0), 31 + 31 + 11 + 20);
    Due.is("of(0, 4): nothing is changed", z.of(0, 4), 0);
  }

  private static void shiftWithoutAny() {
    ChoirRoof x = Due.stones(Due.choir(0, 4, 7, 1), 60, 60);
    Due.is("shift(1, 2): all of them", x.shift(1, 2), 15);
    Due.is("shift(1, 1)", x.shift(1, 1), 1);
    Due.is("shift(2, 2)", x.shift(2, 2), 7);
    Due.is("shift(2, 1)", x.shift(2, 1), 1);
    Due.is("shift(2, 0)", x.shift(2, 0), 6);
    ChoirRoof y = Due.stones(Due.choir(0, -1), 60);
    y.tire(1, 50);
    Due.is("shift(1, 0): TIRED of who rests counts", y.shift(1, 0), 48);
    y.beat();
    Due.is("shift(1, 1): fallen before", y.shift(1, 1), 1);
  }

  /** Promise 21. */
  private static void ill() {
    ChoirRoof x = new ChoirRoof();
    x.singer(0, 0, 0);
    x.singer(0, 0, 1);
    x.singer(0, 0, 3);
    x.singer(0, 0, 1);
    x.sing(0, 0);
    Due.is("ill(0): the first, the lesser note", x.ill(0), 101);
    x.sing(3, 12);
    Due.is("ill(0): with who still sings", x.ill(0), 103);
    Due.is("ill(1): it rests", x.ill(1), -5);
    Due.is("ill(4)", x.ill(4), -1);
    Due.is("ill(-1)", x.ill(-1), -1);
    Due.is("ill(0): nobody else rests", Due.choir(0, 4).ill(0), -5);
    Due.is("ill(1): nobody else at all", Due.choir(0).ill(0), -5);
    Due.is("ill(1): the first one rests", Due.choir(-1, 4).ill(1), 0);
    x.singer(3, 5, 20);
    Due.is("ill(0): a stronger one", x.ill(0), 420);
    Due.is("of(0, 3): nothing is changed", x.of(0, 3), 0);
  }

  /** Promise 22. */
  private static void canon() {
    ChoirRoof x = Due.stones(Due.choir(0, 4, -1), 20);
    Due.is("canon(9, 1)", x.canon(9, 1), 20);
    Due.is("canon(9, 0)", x.canon(9, 0), 0);
    Due.is("canon(30, 0): who rests is eased", x.canon(30, 0), 0);
    Due.is("canon(30, 1), nobody", new ChoirRoof().canon(30, 1), 0);
    Due.is("canon(30, 0), nobody", Due.stones(new ChoirRoof(), 1, 1).canon(30, 0), 2);
    ChoirRoof y = new ChoirRoof();
    y.singer(0, 0, 0);
    y.singer(0, 0, 0);
    y.singer(0, 0, 12);
    y.sing(0, 0);
    y.stone(5);
    long[] least = new long[4];
    long[] fallen = new long[4];
    for (int n = 1; n <= 4; n++) {
      least[n - 1] = y.canon(n, 1);
      fallen[n - 1] = y.canon(n, 0);
    }
    Due.are("canon(n, 1): it goes on to the next number", least, 5, 5, 0, 0);
    Due.are("canon(n, 0)", fallen, 0, 0, 1, 1);
    ChoirRoof z = new ChoirRoof();
    z.singer(0, 0, 0);
    z.singer(0, 0, 12);
    z.sing(1, 12);
    Due.is("canon(2, 1): the last one's goes to the first", z.canon(2, 1), 0);
    ChoirRoof w = new ChoirRoof();
    w.singer(0, 0, 0);
    w.singer(0, 0, 11);
    w.sing(1, 11);
    Due.is("canon(2, 1): and can be sung there", w.canon(2, 1), 5);
    Due.is("canon(0, 0)", w.canon(0, 0), -2);
    Due.is("canon(31, 1)", w.canon(31, 1), -2);
    Due.is("canon(31, 2)", w.canon(31, 2), -1);
    Due.is("canon(1, -1)", w.canon(1, -1), -1);
    Due.is("of(1, 3): nothing is changed", w.of(1, 3), 11);
  }
}
