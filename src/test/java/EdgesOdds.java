/** The edges of promises 29 to 35, sentence by sentence. */
final class EdgesOdds {
  private static final int MIN = Integer.MIN_VALUE, MAX = Integer.MAX_VALUE;
  private static final long NO = Long.MIN_VALUE;

  private EdgesOdds() {
  }

  static void run() {
    odds();
    mean();
    wage();
    plan();
    planned();
    plannedRows();
    book();
    looked();
  }

  private static void odds(String what, ChoirRoof x, long above, long below) {
    Due.is("odds(0), " + what, x.odds(0), above);
    Due.is("odds(1), " + what, x.odds(1), below);
  }

  private static void odds() {
    Due.sentence(29, "how likely nothing is LOOSE: a fraction in lowest terms (NO: there are none).");
    Due.is("NO", ChoirRoof.NO, NO);
    Due.is("odds(0), nobody", Due.stones(new ChoirRoof(), 1).odds(0), NO);
    Due.is("odds(1), nobody", new ChoirRoof().odds(1), NO);
    odds("none", Due.stones(Due.choir(0, 0, 0), 21), 0, 1);
    odds("all three", Due.stones(Due.choir(0, 0, 0), 20), 1, 1);
    odds("one alone", Due.stones(Due.choir(0), 5), 0, 1);
    odds("one alone, no stones", Due.choir(0), 1, 1);
    odds("two of six", Due.stones(Due.choir(0, 0, 0, 0, -1, -1), 60, 1), 1, 3);
    odds("two of four", Due.stones(Due.choir(0, 0, -1, -1), 6), 1, 2);
    odds("four of six", Due.stones(Due.choir(0, 0, -1, -1, -1, -1), 6), 2, 3);
    odds("five of six", Due.stones(Due.choir(0, -1, -1, -1, -1, -1), 5), 5, 6);
    odds("two of five", Due.stones(Due.choir(0, 0, 0, -1, -1), 21), 2, 5);
    odds("who rests alone", Due.choir(-1), 1, 1);
    odds("LOOSE anyway", Due.stones(Due.choir(-1), 1), 0, 1);
    Due.sentence(29, "part 0 above, 1 below the line.");
    for (int part : new int[] {-1, 2, MIN, MAX}) {
      Due.is("odds(" + part + ")", Due.choir(0).odds(part), NO);
      Due.is("odds(" + part + "), nobody", new ChoirRoof().odds(part), NO);
    }
  }

  private static void mean(String what, ChoirRoof x, int n, long above, long below) {
    Due.is("mean(" + n + ", 0), " + what, x.mean(n, 0), above);
    Due.is("mean(" + n + ", 1), " + what, x.mean(n, 1), below);
  }

  private static void mean() {
    Due.sentence(30, "MEAN of n (1 .. 40): ALL ahead of each of n BEATS, together, by n: a fraction in lowest terms.");
    ChoirRoof x = Due.choir(0);
    Due.read(x, "weary 0;draught 8 b=1;loud 4 b=2");
    mean("5", x, 1, 5, 1);
    mean("5 and 1", x, 2, 3, 1);
    mean("5, 1, 7", x, 3, 13, 3);
    mean("5, 1, 7, 5", x, 4, 9, 2);
    mean("four times 48", x, 40, 24, 5);
    mean("nobody", new ChoirRoof(), 40, 0, 1);
    mean("nobody", new ChoirRoof(), 1, 0, 1);
    mean("all rest", Due.choir(-1), 7, 0, 1);
    Due.sentence(30, "MEAN. NO: n, part.");
    for (int n : new int[] {-1, 0, 41, MIN, MAX}) {
      Due.is("mean(" + n + ", 0)", x.mean(n, 0), NO);
      Due.is("mean(" + n + ", 1)", x.mean(n, 1), NO);
    }
    for (int part : new int[] {-1, 2, MIN, MAX}) {
      Due.is("mean(1, " + part + ")", x.mean(1, part), NO);
      Due.is("mean(40, " + part + ")", x.mean(40, part), NO);
    }
  }

  private static void wage(String what, ChoirRoof x, int singer, long above, long below) {
    Due.is("wage(" + singer + ", 0), " + what, x.wage(singer, 0), above);
    Due.is("wage(" + singer + ", 1), " + what, x.wage(singer, 1), below);
  }

  private static void wage() {
    Due.sentence(31, "a fraction in lowest terms (may be below 0; 0, if it rests now).");
    wage("rests alone", Due.choir(-1), 0, 0, 1);
    wage("rests with others", Due.choir(0, -1, 0, 4), 1, 0, 1);
    ChoirRoof x = Due.choir(0);
    Due.read(x, "draught 10 s=0");
    wage("of no FORCE", x, 0, 0, 1);
    Due.sentence(31, "over all sets of others who sing now: ALL, if just these and it sing, less ALL, if just these do");
    wage("the empty set alone", Due.choir(0), 0, 5, 1);
    wage("the empty set alone, the other rests", Due.choir(0, -1), 0, 5, 1);
    wage("5 and 15", Due.choir(0, 0), 1, 10, 1);
    wage("5, 15, 15, 40", Due.choir(0, 0, 0), 2, 75, 4);
    wage("5, 15, 5, 15", Due.choir(0, 0, 1), 0, 10, 1);
    wage("5, 5, 5, 5", Due.choir(0, 0, 1), 2, 5, 1);
    ChoirRoof y = Due.choir(0, 0, 0, 0, 0, 0);
    wage("32 sets: 5, 5 times 15, 10 times 40, 10 times 60, 5 times 80, 100", y, 5, 1580 / 4, 32 / 4);
    Due.sentence(31, "WAGE. NO: singer, part.");
    for (int i : new int[] {-1, 6, MIN, MAX}) Due.is("wage(" + i + ", 0)", y.wage(i, 0), NO);
    Due.is("wage(2, 1) of two", Due.choir(0, 0).wage(2, 1), NO);
    for (int part : new int[] {-1, 2, MIN, MAX}) {
      Due.is("wage(0, " + part + ")", y.wage(0, part), NO);
      Due.is("wage(0, " + part + "), it rests", Due.choir(-1).wage(0, part), NO);
    }
  }

  private static void plan() {
    Due.sentence(32, "NONE; BAD: note (-1 .. 23); FULL: 8.");
    ChoirRoof x = Due.choir(0, 0);
    for (int i : new int[] {-2, 2, 6, MIN, MAX}) Due.is("plan(" + i + ", 0)", x.plan(i, 0), -1);
    for (int note : new int[] {-2, 24, MIN, MAX}) Due.is("plan(0, " + note + ")", x.plan(0, note), -2);
    Due.is("count(4)", x.count(4), 0);
    Due.is("plan(0, -1)", x.plan(0, -1), 1);
    Due.is("plan(1, 23), whether it can sing it or not", x.plan(1, 23), 2);
    for (int i = 3; i <= 8; i++) Due.is("plan(0, 0)", x.plan(0, 0), i);
    Due.is("plan(0, 0), a 9.", x.plan(0, 0), -4);
    Due.is("count(4)", x.count(4), 8);
    Due.sentence(32, "A row comes to the PLAN: how many there are (singer -1: none then, 0, whatever the other is).");
    for (int note : new int[] {-1, 0, 23, 24, -2, MIN, MAX}) {
      ChoirRoof y = Due.choir(0);
      for (int i = 0; i < 8; i++) y.plan(0, -1);
      Due.is("planned(1)", y.planned(1), 0);
      Due.is("plan(-1, " + note + "), full", y.plan(-1, note), 0);
      Due.is("count(4)", y.count(4), 0);
      Due.is("planned(1), no rows", y.planned(1), 5);
      Due.is("plan(-1, " + note + "), empty", y.plan(-1, note), 0);
      Due.is("plan(0, 0)", y.plan(0, 0), 1);
    }
    Due.is("plan(-1, 0), nobody", new ChoirRoof().plan(-1, 0), 0);
    Due.is("plan(0, 0), nobody", new ChoirRoof().plan(0, 0), -1);
  }

  private static void planned() {
    Due.sentence(33, "PLANNED: what 0 FALLEN, 1 ALL. NONE.");
    ChoirRoof x = Due.stones(Due.choir(0), 6, 5);
    for (int what : new int[] {-1, 2, MIN, MAX}) Due.is("planned(" + what + ")", x.planned(what), -1);
    Due.is("planned(0), no rows: no BEAT goes", x.planned(0), 0);
    Due.is("planned(1), no rows", x.planned(1), 5);
    x.beat();
    Due.is("planned(0), fallen before", x.planned(0), 2);
    Due.sentence(33, "(what it can not sing: it rests)");
    int[][] notes = {{4, 0}, {5, 5}, {16, 5}, {17, 0}, {0, 0}, {23, 0}, {-1, 0}};
    for (int[] n : notes) {
      ChoirRoof y = new ChoirRoof();
      y.singer(0, 0, 5);
      y.sing(0, 8);
      y.plan(0, n[0]);
      Due.is("planned(1), LOW 5 on " + n[0], y.planned(1), n[1]);
      Due.is("of(0, 3): nothing is changed", y.of(0, 3), 8);
    }
    ChoirRoof z = new ChoirRoof();
    z.singer(0, 0, 20);
    z.plan(0, 23);
    Due.is("planned(1), LOW 20 on 23", z.planned(1), 5);
  }

  private static void plannedRows() {
    Due.sentence(33, "rows of one and a NOTE (or -1), each set ahead of a BEAT that goes then; 8 at most");
    ChoirRoof x = Due.stones(Due.choir(-1, -1), 6, 5);
    x.plan(0, 0);
    Due.is("planned(0): 6 by 5", x.planned(0), 2);
    ChoirRoof y = Due.stones(Due.choir(-1, -1), 5, 15);
    y.plan(0, 0);
    Due.is("planned(0): set ahead of its BEAT", y.planned(0), 1);
    y.plan(1, 0);
    Due.is("planned(0): the second row, too late for 15", y.planned(0), 1);
    Due.is("planned(1): both stay", y.planned(1), 20);
    ChoirRoof z = Due.choir(-1);
    Due.read(z, "weary 10");
    for (int i = 1; i <= 8; i++) {
      z.plan(0, 0);
      Due.is("planned(1), " + i + " BEATS", z.planned(1), (10 - i) / 2);
    }
    ChoirRoof w = Due.stones(Due.choir(-1, -1), 5);
    for (int i = 0; i < 7; i++) w.plan(1, 0);
    Due.is("planned(0), seven rows", w.planned(0), 0);
    w.plan(1, -1);
    Due.is("planned(0): the eighth is a rest", w.planned(0), 1);
    Due.is("planned(1): the eighth is a rest", w.planned(1), 0);
  }

  private static void book() {
    Due.sentence(34, "NONE; BAD: bears (0 .. 999); FULL: 8.");
    ChoirRoof x = Due.choir(0, 0);
    for (int i : new int[] {-2, 2, 6, MIN, MAX}) Due.is("book(" + i + ", 0)", x.book(i, 0), -1);
    for (int bears : new int[] {-1, 1000, MIN, MAX}) Due.is("book(0, " + bears + ")", x.book(0, bears), -2);
    Due.is("count(5)", x.count(5), 0);
    Due.is("book(0, 0)", x.book(0, 0), 1);
    Due.is("book(1, 999)", x.book(1, 999), 2);
    for (int i = 3; i <= 8; i++) Due.is("book(0, 10)", x.book(0, 10), i);
    Due.is("book(0, 10), a 9.", x.book(0, 10), -4);
    Due.is("count(5)", x.count(5), 8);
    Due.sentence(34, "A row comes to BOOK: how many there are (singer -1: none then, 0, whatever the other is).");
    for (int bears : new int[] {0, 999, 1000, -1, MIN, MAX}) {
      ChoirRoof y = Due.choir(0);
      for (int i = 0; i < 8; i++) y.book(0, 9);
      Due.is("looked()", y.looked(), 0);
      Due.is("book(-1, " + bears + "), full", y.book(-1, bears), 0);
      Due.is("count(5)", y.count(5), 0);
      Due.is("looked(), no rows", y.looked(), -5);
      Due.is("book(-1, " + bears + "), empty", y.book(-1, bears), 0);
      Due.is("book(0, 5)", y.book(0, 5), 1);
    }
    Due.is("book(-1, 0), nobody", new ChoirRoof().book(-1, 0), 0);
    Due.is("book(0, 0), nobody", new ChoirRoof().book(0, 0), -1);
  }

  private static void looked() {
    Due.sentence(35, "LOOKED at: the first that is not so (-5: none).");
    Due.is("looked(), no rows", Due.choir(0).looked(), -5);
    Due.is("looked(), nobody", new ChoirRoof().looked(), -5);
    ChoirRoof x = Due.choir(0, 0, -1);
    for (int i = 0; i < 7; i++) x.book(i % 3, i % 3 == 2 ? 0 : 10);
    Due.is("looked(), seven that are so", x.looked(), -5);
    x.book(2, 1);
    Due.is("looked(), the eighth is not: who rests bears 0", x.looked(), 7);
    x.sing(0, -1);
    Due.is("looked(), the first of several", x.looked(), 0);
    ChoirRoof y = Due.choir(0);
    y.book(0, 5);
    y.book(0, 4);
    y.book(0, 6);
    Due.is("looked(), one less", y.looked(), 1);
    Due.sentence(35, "BOOK told by hand: SINGERS and what they bear now");
    y.book(-1, 0);
    y.book(0, 5);
    Due.is("looked(), 5", y.looked(), -5);
    y.tire(0, 10);
    Due.is("looked(), 4 now", y.looked(), 0);
  }
}
