/** Whole sentences of promises 1 to 13, with ordinary numbers. */
final class WholeSingers {
  private WholeSingers() {
  }

  /** An expression of three tests. */
  private interface Three {
    boolean of(boolean a, boolean b, boolean c);
  }

  static void run() {
    newOne();
    setting();
    words();
    tests();
    trueAndFalse();
    settings();
    kinds();
    ranges();
    of();
    force();
    tuneAndBears();
    rows();
    stones();
    loose();
    beat();
  }

  private static void nothingIn(String whose, ChoirRoof x) {
    int[] told = {0, 3, 1, 0, 0, 0};
    for (int what = 0; what <= 7; what++) Due.is("count(" + what + ")" + whose, x.count(what), 0);
    for (int what = 0; what <= 5; what++) Due.is("told(" + what + ")" + whose, x.told(what), told[what]);
    Due.is("of(0, 0)" + whose, x.of(0, 0), -1);
    Due.is("at(0, 0)" + whose, x.at(0, 0), -1);
    Due.is("undo()" + whose, x.undo(), -3);
  }

  private static void newOne() {
    Due.sentence(1, "Nobody, no STONES, no SETTING.");
    nothingIn(" of a new one", new ChoirRoof());
    ChoirRoof x = Due.stones(Due.choir(4, 7), 60, 3);
    Due.read(x, "ease 9;weary 9;loud 9 s=0");
    x.feed('e');
    x.dust(1, 1);
    x.plan(0, 0);
    x.book(0, 0);
    x.beat();
    x.act(0, 2, 5);
    x.image();
    nothingIn(" of a new one beside one that is used", new ChoirRoof());
    Due.is("undo() of the other", x.undo(), 2);
  }

  private static void setting() {
    Due.sentence(3, "A SETTING is read from THE TAPE (bytes, 100 at most): CLAUSES, 10 at most, with ; between: "
        + "ease n; weary n; loud n E; draught n E (one blank ahead of each part behind the word");
    ChoirRoof x = new ChoirRoof();
    x.singer(0, 1, 0);
    x.singer(2, 6, 0);
    x.sing(0, 4);
    x.sing(1, 7);
    Due.is("setting()", Due.read(x, "ease 12;weary 4;loud 5 k=2&n>5;draught 3 s=0|v=6"), 0);
    Due.is("told(1)", x.told(1), 12);
    Due.is("told(2)", x.told(2), 4);
    Due.is("of(0, 5)", x.of(0, 5), 10 - 3);
    Due.is("of(1, 5)", x.of(1, 5), 8 + 3 + 5 - 3);
    Due.is("setting(), a word that is none", Due.read(x, "ease 1;quiet 2 s=0"), -17);
    Due.is("setting(), an E that has no place", Due.read(x, "weary 4 s=0"), -17);
    Due.is("setting(), an E that is missing", Due.read(x, "draught 31;ease 1"), -20);
    Due.is("of(1, 5): it holds still", x.of(1, 5), 13);
  }

  private static void words() {
    Due.sentence(3, "EASE (3 without: how much less TIRED a rest makes one), WEARY (1 without: how much more TIRED "
        + "a beat of singing makes one): the last n.");
    ChoirRoof x = Due.choir(4, -1);
    x.tire(0, 20);
    x.tire(1, 20);
    x.beat();
    Due.is("of(0, 4), without", x.of(0, 4), 21);
    Due.is("of(1, 4), without", x.of(1, 4), 17);
    Due.read(x, "weary 9;ease 6;ease 8;weary 15");
    x.beat();
    Due.is("of(0, 4), weary 15", x.of(0, 4), 36);
    Due.is("of(1, 4), ease 8", x.of(1, 4), 9);
  }

  /** Whether a loud clause by this test holds of the third, a BOY with v 6 that sings 14, TIRED 38, at BEAT 12. */
  private static boolean holds(String test) {
    ChoirRoof x = Due.choir(-1, -1);
    x.singer(2, 6, 10);
    Due.read(x, "weary 0;loud 50 " + test);
    for (int b = 0; b < 12; b++) x.beat();
    x.sing(2, 14);
    x.tire(2, 38);
    int force = x.of(2, 5);
    Due.is("of(2, 5) by loud 50 " + test, force, force > 50 ? 62 : 12);
    return force > 50;
  }

  private static void tests() {
    Due.sentence(3, "a TEST: s or k or v or n or t or b, one of < = >, a number likewise: of one of SINGERS s its number, "
        + "k its KIND, v its v, n its NOTE, t TIRED by 10 (cut), b BEAT modulo 10.");
    String letters = "skvntb";
    int[] is = {2, 2, 6, 14, 3, 2};
    for (int l = 0; l < 6; l++) {
      for (int n = 0; n <= 99; n += n < 16 ? 1 : 17) {
        char letter = letters.charAt(l);
        Due.is(letter + "<" + n, holds(letter + "<" + n) ? 1 : 0, is[l] < n ? 1 : 0);
        Due.is(letter + "=" + n, holds(letter + "=" + n) ? 1 : 0, is[l] == n ? 1 : 0);
        Due.is(letter + ">" + n, holds(letter + ">" + n) ? 1 : 0, is[l] > n ? 1 : 0);
      }
    }
  }

  /** In all ways in which a, b and c can be true or false. */
  private static void ways(String form, Three due) {
    for (int way = 0; way < 8; way++) {
      boolean a = (way & 1) != 0, b = (way & 2) != 0, c = (way & 4) != 0;
      String e = form.replace("a", a ? "s=2" : "s=1").replace("b", b ? "n>13" : "n>14").replace("c", c ? "v<7" : "v<6");
      Due.is(form + " as " + e, holds(e) ? 1 : 0, due.of(a, b, c) ? 1 : 0);
    }
  }

  private static void trueAndFalse() {
    Due.sentence(3, "E: T, or T|E. T: F, or F&T. F: !F, (E), or a TEST");
    ways("a", (a, b, c) -> a);
    ways("!a", (a, b, c) -> !a);
    ways("a|!b", (a, b, c) -> a || !b);
    ways("a&!b", (a, b, c) -> a && !b);
    ways("!a|b", (a, b, c) -> !a || b);
    ways("!a&b", (a, b, c) -> !a && b);
    ways("!a|!b|!c", (a, b, c) -> !a || !b || !c);
    ways("!a&!b&!c", (a, b, c) -> !a && !b && !c);
    ways("a|b&c", (a, b, c) -> a || b && c);
    ways("a&b|c", (a, b, c) -> a && b || c);
    ways("a|!b&c", (a, b, c) -> a || !b && c);
    ways("a&!b|!c", (a, b, c) -> a && !b || !c);
    ways("a&(b|!c)", (a, b, c) -> a && (b || !c));
    ways("a|!(b&!c)", (a, b, c) -> a || !(b && !c));
    ways("!(a|!b)&!c", (a, b, c) -> !(a || !b) && !c);
    ways("(a|!b)&(!a|c)", (a, b, c) -> (a || !b) && (!a || c));
    ways("c|!(a&!(b|!c))", (a, b, c) -> c || !(a && !(b || !c)));
    ways("a&!!b|!!!c", (a, b, c) -> a && b || !c);
    ways("((a)|(b&(!c)))&!((a))", (a, b, c) -> (a || b && !c) && !a);
  }

  private static void settings() {
    Due.sentence(3, "the newest one holds; without one there are no CLAUSES.");
    ChoirRoof x = Due.choir(4);
    Due.is("of(0, 5), without one", x.of(0, 5), 10);
    Due.is("setting()", Due.read(x, "loud 6 n=4"), 0);
    Due.is("of(0, 5), loud 6", x.of(0, 5), 16);
    Due.is("setting()", Due.read(x, "draught 6 n=4"), 1);
    Due.is("of(0, 5), draught 6", x.of(0, 5), 4);
    Due.is("setting(), a FAULT", Due.read(x, "loud 6 n=four"), -19);
    Due.is("of(0, 5): the one that held", x.of(0, 5), 4);
    Due.is("setting()", Due.read(x, "weary 2"), 2);
    Due.is("of(0, 5): nothing of the older ones", x.of(0, 5), 10);
    Due.sentence(3, "THE TAPE, which is empty then (by a FAULT, too), is a SETTING, and holds: its number; "
        + "-10 less the FAULT (the one that held holds). FULL (ahead of all; THE TAPE stays).");
    Due.is("setting()", Due.read(x, "loud 7 n=4;weary 12"), 3);
    Due.is("count(6)", x.count(6), 0);
    Due.is("of(0, 5)", x.of(0, 5), 17);
    Due.is("setting()", Due.read(x, "ease 7"), 4);
    Due.is("setting(), a 6.", Due.read(x, "ease 8"), -4);
    Due.is("count(6)", x.count(6), 6);
    Due.is("told(1)", x.told(1), 7);
  }

  private static void kinds() {
    Due.sentence(4, "A SINGER: its number. NONE: kind; BAD: v, low; FULL: 6.");
    ChoirRoof x = new ChoirRoof();
    int[] kinds = {4, 0, 6, 2, 5, 1};
    Due.is("singer(8, 3, 10)", x.singer(8, 3, 10), -1);
    Due.is("singer(4, 12, 10)", x.singer(4, 12, 10), -2);
    Due.is("singer(4, 3, 30)", x.singer(4, 3, 30), -2);
    for (int i = 0; i < 6; i++) Due.is("singer(" + kinds[i] + ", " + (i + 3) + ", 10)", x.singer(kinds[i], i + 3, 10), i);
    for (int i = 0; i < 6; i++) Due.is("of(" + i + ", 0)", x.of(i, 0), kinds[i]);
    Due.is("singer(4, 3, 10), a 7.", x.singer(4, 3, 10), -4);
    Due.sentence(4, "each of a KIND: 0 SINGER; 1 BASS, 2 BOY, 3 STRONG under SINGER; 4 DEEP under BASS; 5 BREAKING under "
        + "BOY; 6 TOLD under STRONG; a number v (0 .. 9), a LOW note (0 .. 23: its RANGE is LOW");
    int[] above = {-1, 0, 0, 0, 1, 2, 3};
    for (int i = 0; i < 6; i++) {
      for (int k = 0; k <= 6; k++) {
        int due = -6;
        for (int kind = kinds[i]; kind >= 0; kind = above[kind]) if (kind == k) due = i + 3;
        Due.is("as(" + i + ", " + k + ")", x.as(i, k), due);
      }
    }
  }

  private static void ranges() {
    Due.sentence(7, "NOTES are numbers 0 .. 23. SINGERS are numbered from 0 on, 6 at most, each of a KIND");
    ChoirRoof x = new ChoirRoof();
    x.singer(0, 0, 0);
    x.singer(0, 0, 12);
    for (int note = -3; note <= 26; note++) {
      if (note == -1) continue;
      int was = note == 0 || note == 12 ? -5 : note - 1;
      Due.is("sing(0, " + note + ")", x.sing(0, note), note >= 0 && note <= 11 ? was : -2);
      Due.is("sing(1, " + note + ")", x.sing(1, note), note >= 12 && note <= 23 ? was : -2);
      if (note >= 0 && note <= 23) Due.is("of(" + note / 12 + ", 3)", x.of(note / 12, 3), note);
    }
    Due.sentence(7, "a NOTE (that it sings; -1: it rests; -1 at first), TIRED (0 .. 99; 0 at first); TOLD ones a ROW of four numbers");
    ChoirRoof y = new ChoirRoof();
    y.singer(6, 3, 6);
    Due.is("of(0, 3) at first", y.of(0, 3), -5);
    Due.is("sing(0, 9)", y.sing(0, 9), -5);
    Due.is("of(0, 3)", y.of(0, 3), 9);
    Due.is("sing(0, -1)", y.sing(0, -1), 9);
    Due.is("of(0, 3), rests", y.of(0, 3), -5);
    Due.sentence(7, "BEAT is 1 more. One may sing a NOTE in its RANGE alone.");
    for (int low : new int[] {3, 10, 16}) {
      ChoirRoof z = new ChoirRoof();
      z.singer(2, 0, low);
      for (int note = 0; note <= 23; note++) {
        boolean may = note >= low && note <= low + 11;
        int due = !may ? -2 : note == low ? -5 : note - 1;
        Due.is("sing(0, " + note + "), LOW " + low, z.sing(0, note), due);
      }
      z.beat();
      Due.is("of(0, 3), LOW " + low, z.of(0, 3), Math.min(23, low + 11));
    }
  }

  /** A STRONG one on 0, a SINGER on 4, a BOY on 7, a BASS on 1, and one who rests. */
  static ChoirRoof five() {
    ChoirRoof x = new ChoirRoof();
    int[] kinds = {3, 0, 2, 1, 0};
    int[] notes = {0, 4, 7, 1, -1};
    for (int i = 0; i < 5; i++) {
      x.singer(kinds[i], 3, 0);
      x.sing(i, notes[i]);
    }
    return x;
  }

  private static void of() {
    Due.sentence(5, "Of a SINGER what 0 KIND, 1 v, 2 LOW, 3 NOTE (-5: it rests), 4 TIRED, 5 FORCE (0: it rests), 6 BEARS, "
        + "7 with how many it is IN TUNE. NONE.");
    ChoirRoof x = five();
    x.singer(4, 8, 9);
    x.sing(5, 14);
    x.tire(5, 31);
    // 14 is 14, 10, 7 and 13 apart from the others: in tune with the BOY alone.
    int[] due = {4, 8, 9, 14, 31, 8 + 9 / 4 - 3, 7, 1};
    for (int what = 0; what <= 7; what++) Due.is("of(5, " + what + ")", x.of(5, what), due[what]);
    int[] rests = {0, 3, 0, -5, 0, 0, 0, 0};
    for (int what = 0; what <= 7; what++) Due.is("of(4, " + what + ")", x.of(4, what), rests[what]);
    Due.is("of(2, 7): one more", x.of(2, 7), 3);
    Due.is("of(5, 8)", x.of(5, 8), -1);
    Due.is("of(6, 0)", x.of(6, 0), -1);
  }

  private static void force() {
    Due.sentence(5, "FORCE of one who sings: STRENGTH, the n of all loud whose E holds, less those of all draught and less "
        + "TIRED by 10 (cut), together; 0 at least.");
    ChoirRoof x = new ChoirRoof();
    x.singer(3, 4, 0);
    x.singer(6, 2, 6);
    x.sing(0, 3);
    x.sing(1, 9);
    int[] row = {1, 3, 5, 7};
    for (int k = 0; k < 4; k++) x.row(1, k, row[k]);
    Due.read(x, "weary 0;loud 6 n>2;loud 2 k=6;draught 4 v<3;draught 9 b=2&s=0;draught 15 b=3");
    x.tire(0, 37);
    x.tire(1, 18);
    int[][] due = {{14 + 6 - 3, 13 + 6 + 2 - 4 - 1}, {17, 15 + 8 - 5}, {17 - 9, 17 + 8 - 5}, {17 - 15, 19 + 8 - 5 - 15}};
    for (int b = 0; b < 4; b++) {
      Due.is("of(0, 5) at BEAT " + b, x.of(0, 5), due[b][0]);
      Due.is("of(1, 5) at BEAT " + b, x.of(1, 5), due[b][1]);
      x.beat();
    }
    Due.is("setting()", Due.read(x, "draught 12 s=0"), 1);
    Due.is("of(0, 5): 0 at least", x.of(0, 5), 0);
  }

  private static void tuneAndBears() {
    Due.sentence(5, "IN TUNE are two SINGERS who sing, if their NOTES are 0, 3, 4, 5, 7, 8 or 9 apart modulo 12.");
    ChoirRoof x = five();
    int[] tune = {2, 3, 2, 1, 0};
    for (int i = 0; i < 5; i++) Due.is("of(" + i + ", 7)", x.of(i, 7), tune[i]);
    Due.sentence(5, "BEARS of one who sings: its FORCE, times how many others it is IN TUNE with (none: the half of its "
        + "FORCE, cut). One who rests bears nothing.");
    int[] bears = {26, 30, 22, 12, 0};
    for (int i = 0; i < 5; i++) Due.is("of(" + i + ", 6)", x.of(i, 6), bears[i]);
    Due.sentence(12, "ALL: what all bear, together.");
    Due.is("told(3)", x.told(3), 26 + 30 + 22 + 12);
    x.sing(1, -1);
    Due.is("told(3), without the second", x.told(3), 13 + 11 + 6);
    x.tire(0, 45);
    Due.is("told(3), the first TIRED", x.told(3), 9 + 11 + 6);
  }

  private static void rows() {
    Due.sentence(6, "The ROW of a TOLD one becomes n (0 .. 9) for k (0 .. 3): what it was.");
    ChoirRoof x = new ChoirRoof();
    x.singer(6, 1, 0);
    x.singer(6, 1, 0);
    Due.is("row(0, 1, 6)", x.row(0, 1, 6), 0);
    Due.is("row(0, 2, 4)", x.row(0, 2, 4), 0);
    Due.is("row(1, 1, 3)", x.row(1, 1, 3), 0);
    Due.is("row(0, 1, 8)", x.row(0, 1, 8), 6);
    Due.is("row(1, 1, 5): each has its own", x.row(1, 1, 5), 3);
    x.beat();
    x.sing(0, 0);
    Due.is("of(0, 5) at BEAT 1", x.of(0, 5), 11 + 8);
    Due.is("row(0, 4, 5)", x.row(0, 4, 5), -1);
    Due.is("row(0, 3, 12)", x.row(0, 3, 12), -2);
  }

  private static void stones() {
    Due.sentence(9, "A STONE: its number. BAD: weight; FULL: 6.");
    ChoirRoof x = new ChoirRoof();
    int[] weights = {40, 7, 33, 7, 60, 18};
    for (int s = 0; s < 6; s++) Due.is("stone(" + weights[s] + ")", x.stone(weights[s]), s);
    Due.sentence(10, "Of a STONE what 0 WEIGHT, 1 whether it is PROPPED, 2 FALLEN, 3 LOOSE (1, 0 each). NONE.");
    x.prop(2, true);
    for (int s = 0; s < 6; s++) {
      Due.is("at(" + s + ", 0)", x.at(s, 0), weights[s]);
      Due.is("at(" + s + ", 1)", x.at(s, 1), s == 2 ? 1 : 0);
      Due.is("at(" + s + ", 2)", x.at(s, 2), 0);
      Due.is("at(" + s + ", 3)", x.at(s, 3), s == 2 ? 0 : 1);
    }
    Due.is("beat()", x.beat(), 5);
    for (int s = 0; s < 6; s++) {
      Due.is("at(" + s + ", 0), behind it", x.at(s, 0), weights[s]);
      Due.is("at(" + s + ", 2), behind it", x.at(s, 2), s == 2 ? 0 : 1);
      Due.is("at(" + s + ", 3), behind it", x.at(s, 3), 0);
    }
    Due.is("at(6, 0)", x.at(6, 0), -1);
    Due.is("at(3, 5)", x.at(3, 5), -1);
  }

  private static void loose() {
    Due.sentence(10, "STONES that are neither PROPPED nor FALLEN hang; these are borne by their numbers, from the least on, as "
        + "long as their WEIGHTS, together, are no more than ALL; the first one by which they are more, and all that hang "
        + "behind it, are LOOSE.");
    ChoirRoof x = Due.stones(five(), 40, 30, 15, 10, 20);
    Due.is("told(4): 85 by 90, 95 is more", x.told(4), 8 + 16);
    Due.is("at(2, 3)", x.at(2, 3), 0);
    Due.is("at(3, 3)", x.at(3, 3), 1);
    Due.is("at(4, 3)", x.at(4, 3), 1);
    x.prop(1, true);
    Due.is("told(4), 30 PROPPED: 85 by 90", x.told(4), 0);
    x.prop(1, false);
    Due.is("beat()", x.beat(), 2);
    Due.is("told(4), two FALLEN", x.told(4), 0);
    Due.is("told(5), two FALLEN", x.told(5), 2);
    x.stone(5);
    Due.is("told(4): 85 and 5 by 90", x.told(4), 0);
    x.sing(3, -1);
    Due.is("told(4): 68 is less than 70", x.told(4), 2 + 4 + 32);
  }

  private static void beat() {
    Due.sentence(13, "A BEAT goes: all that are LOOSE fall; TIRED of who sings is WEARY more (99 at most), of who rests EASE "
        + "less (0 at least); BEAT is 1 more.");
    ChoirRoof x = Due.stones(five(), 60, 25, 10, 30);
    Due.read(x, "weary 6;ease 4");
    int[] tired = {0, 3, 50, 95, 30};
    for (int i = 0; i < 5; i++) x.tire(i, tired[i]);
    // Forces 13, 10, 11 - 5, 12 - 9: 26, 30, 12, 3 is 71.
    Due.is("told(3)", x.told(3), 71);
    Due.is("beat()", x.beat(), 3);
    int[] behind = {6, 9, 56, 99, 26};
    for (int i = 0; i < 5; i++) Due.is("of(" + i + ", 4)", x.of(i, 4), behind[i]);
    Due.is("told(0)", x.told(0), 1);
    Due.is("told(5)", x.told(5), 3);
    Due.is("beat(), the second", x.beat(), 0);
    Due.is("of(1, 4), the second", x.of(1, 4), 15);
    Due.is("of(4, 4), the second", x.of(4, 4), 22);
    Due.is("told(0), the second", x.told(0), 2);
  }
}
