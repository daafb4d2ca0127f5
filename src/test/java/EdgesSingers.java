/** The edges of promises 4 to 13, sentence by sentence. */
final class EdgesSingers {
  private static final int MIN = Integer.MIN_VALUE, MAX = Integer.MAX_VALUE;

  private EdgesSingers() {
  }

  static void run() {
    singer();
    atFirst();
    of();
    force();
    strengths();
    lowAndHighVoices();
    breaking();
    toldOnes();
    tune();
    bears();
    row();
    sing();
    tire();
    stone();
    at();
    prop();
    told();
    beat();
    lastBeat();
  }

  private static void singer() {
    Due.sentence(4, "SINGERS are numbered from 0 on, 6 at most");
    ChoirRoof x = new ChoirRoof();
    for (int i = 0; i < 6; i++) Due.is("singer(0, 0, 0)", x.singer(0, 0, 0), i);
    Due.is("singer(0, 0, 0), a 7.", x.singer(0, 0, 0), -4);
    Due.is("count(0)", x.count(0), 6);
    Due.is("of(5, 0)", x.of(5, 0), 0);
    Due.is("of(6, 0)", x.of(6, 0), -1);
    Due.sentence(4, "each of a KIND: 0 SINGER; 1 BASS, 2 BOY, 3 STRONG under SINGER");
    ChoirRoof y = new ChoirRoof();
    for (int kind : new int[] {-1, 7, MIN, MAX}) Due.is("singer(" + kind + ", 0, 0)", y.singer(kind, 0, 0), -1);
    for (int kind = 0; kind < 6; kind++) Due.is("singer(" + kind + ", 0, 0)", y.singer(kind, 0, 0), kind);
    Due.is("singer(6, 0, 0)", new ChoirRoof().singer(6, 0, 0), 0);
    Due.sentence(4, "a number v (0 .. 9)");
    ChoirRoof z = new ChoirRoof();
    for (int v : new int[] {-1, 10, MIN, MAX}) Due.is("singer(0, " + v + ", 0)", z.singer(0, v, 0), -2);
    Due.is("singer(0, 0, 0)", z.singer(0, 0, 0), 0);
    Due.is("singer(0, 9, 0)", z.singer(0, 9, 0), 1);
    Due.is("of(1, 1)", z.of(1, 1), 9);
    Due.sentence(4, "a LOW note (0 .. 23");
    ChoirRoof w = new ChoirRoof();
    for (int low : new int[] {-1, 24, MIN, MAX}) Due.is("singer(0, 0, " + low + ")", w.singer(0, 0, low), -2);
    Due.is("singer(0, 0, 0)", w.singer(0, 0, 0), 0);
    Due.is("singer(0, 0, 23)", w.singer(0, 0, 23), 1);
    Due.is("of(1, 2)", w.of(1, 2), 23);
  }

  private static void atFirst() {
    Due.sentence(4, "-1: it rests; -1 at first)");
    ChoirRoof x = new ChoirRoof();
    for (int i = 0; i < 6; i++) x.singer(6, 9, 23);
    for (int i = 0; i < 6; i++) Due.is("of(" + i + ", 3)", x.of(i, 3), -5);
    Due.sentence(4, "TIRED (0 .. 99; 0 at first)");
    for (int i = 0; i < 6; i++) Due.is("of(" + i + ", 4)", x.of(i, 4), 0);
    Due.sentence(6, "a ROW of four numbers (0 .. 9; 0 at first)");
    for (int i = 0; i < 6; i++) {
      for (int k = 0; k < 4; k++) {
        Due.is("row(" + i + ", " + k + ", 9)", x.row(i, k, 9), 0);
        Due.is("row(" + i + ", " + k + ", 0)", x.row(i, k, 0), 9);
      }
    }
    for (int k : new int[] {-1, 4, MIN, MAX}) Due.is("row(0, " + k + ", 0)", x.row(0, k, 0), -1);
    for (int n : new int[] {-1, 10, MIN, MAX}) Due.is("row(0, 0, " + n + ")", x.row(0, 0, n), -2);
    Due.is("row(0, 0, 0): still 0", x.row(0, 0, 0), 0);
  }

  private static void of() {
    Due.sentence(5, "3 NOTE (-5: it rests), 4 TIRED, 5 FORCE (0: it rests)");
    ChoirRoof x = Due.choir(0, -1);
    x.tire(1, 5);
    Due.is("of(0, 3): 0 is a note", x.of(0, 3), 0);
    Due.is("of(1, 3)", x.of(1, 3), -5);
    Due.is("of(1, 4)", x.of(1, 4), 5);
    Due.is("of(0, 5)", x.of(0, 5), 10);
    Due.is("of(1, 5)", x.of(1, 5), 0);
    Due.read(x, "loud 9 s=1");
    Due.is("of(1, 5): however loud", x.of(1, 5), 0);
    x.sing(0, -1);
    Due.is("of(0, 3): rests again", x.of(0, 3), -5);
    Due.is("of(0, 5): rests again", x.of(0, 5), 0);
    Due.sentence(5, "6 BEARS, 7 with how many it is IN TUNE. NONE.");
    ChoirRoof y = Due.choir(-1, 0, 4);
    for (int what : new int[] {-1, 8, MIN, MAX}) Due.is("of(0, " + what + ")", y.of(0, what), -1);
    for (int i : new int[] {-1, 3, MIN, MAX}) Due.is("of(" + i + ", 0)", y.of(i, 0), -1);
    Due.is("of(0, 6): rests", y.of(0, 6), 0);
    Due.is("of(0, 7): rests", y.of(0, 7), 0);
    Due.is("of(2, 6)", y.of(2, 6), 10);
    Due.is("of(2, 7)", y.of(2, 7), 1);
  }

  private static int forceOf(int kind, int v, int note) {
    ChoirRoof x = new ChoirRoof();
    x.singer(0, 0, 0);
    x.singer(kind, v, note);
    x.sing(1, note);
    return x.of(1, 5);
  }

  private static int forceBy(String setting, int tired) {
    ChoirRoof x = Due.choir(0);
    x.tire(0, tired);
    Due.read(x, setting);
    return x.of(0, 5);
  }

  private static void force() {
    Due.sentence(5, "less those of all draught and less TIRED by 10 (cut), together; 0 at least.");
    int[][] tired = {{0, 10}, {1, 10}, {9, 10}, {10, 9}, {19, 9}, {20, 8}, {89, 2}, {90, 1}, {99, 1}};
    for (int[] t : tired) Due.is("FORCE, TIRED " + t[0], forceBy("ease 3", t[0]), t[1]);
    Due.is("FORCE by draught 9", forceBy("draught 9 s=0", 0), 1);
    Due.is("FORCE by draught 10", forceBy("draught 10 s=0", 0), 0);
    Due.is("FORCE by draught 11", forceBy("draught 11 s=0", 0), 0);
    Due.is("FORCE by draught 99", forceBy("draught 99 s=0", 0), 0);
    Due.is("FORCE by draught 1, TIRED 99", forceBy("draught 1 s=0", 99), 0);
    Due.is("FORCE by draught 2, TIRED 99", forceBy("draught 2 s=0", 99), 0);
    Due.is("FORCE: the draught is cut together with the loud", forceBy("draught 60 s=0;loud 55 s=0", 0), 5);
    Due.is("FORCE: the TIRED is cut together with the loud", forceBy("draught 10 s=0;loud 9 s=0", 99), 0);
    ChoirRoof x = Due.choir(0, 4);
    Due.read(x, "draught 50 s=0");
    Due.is("told(3): never below 0", x.told(3), 10);
  }

  private static void strengths() {
    Due.sentence(5, "STRENGTH: SINGER: 10.");
    for (int note : new int[] {0, 11, 12, 23}) Due.is("SINGER on " + note, forceOf(0, 9, note), 10);
    Due.sentence(5, "STRONG: 10 and v.");
    for (int v = 0; v <= 9; v++) Due.is("STRONG, v " + v, forceOf(3, v, 5), 10 + v);
  }

  private static void lowAndHighVoices() {
    Due.sentence(5, "BASS: 12, if its NOTE is 11 or less, else 8.");
    for (int note = 0; note <= 23; note++) Due.is("BASS on " + note, forceOf(1, 9, note), note <= 11 ? 12 : 8);
    Due.sentence(5, "BOY: 8, and the half of its NOTE (cut).");
    int[] boy = {8, 8, 9, 9, 10, 10, 11, 11, 12, 12, 13, 13, 14, 14, 15, 15, 16, 16, 17, 17, 18, 18, 19, 19};
    for (int note = 0; note <= 23; note++) Due.is("BOY on " + note, forceOf(2, 9, note), boy[note]);
    Due.sentence(5, "DEEP: as BASS, and 23 less its NOTE by 4 (cut).");
    int[] deep = {17, 17, 17, 17, 16, 16, 16, 16, 15, 15, 15, 15, 10, 10, 10, 10, 9, 9, 9, 9, 8, 8, 8, 8};
    for (int note = 0; note <= 23; note++) Due.is("DEEP on " + note, forceOf(4, 9, note), deep[note]);
  }

  /** BREAKING ones with this v: are those BEATS at which the i-th has no STRENGTH just the multiples? */
  private static void breaks(int v, int i, int... beats) {
    ChoirRoof x = new ChoirRoof();
    for (int j = 0; j < i; j++) x.singer(0, 0, 0);
    x.singer(5, v, 0);
    Due.read(x, "weary 0");
    x.sing(i, 3);
    int next = 0;
    for (int b = 0; b <= 24; b++) {
      boolean is = next < beats.length && beats[next] == b;
      if (is) next++;
      Due.is("BREAKING, v " + v + ", number " + i + ", at BEAT " + b, x.of(i, 5), is ? 0 : 9);
      x.beat();
    }
  }

  private static void breaking() {
    Due.sentence(5, "BREAKING: as BOY; 0, if BEAT and its number, together, are a multiple of v and 2.");
    breaks(0, 0, 0, 2, 4, 6, 8, 10, 12, 14, 16, 18, 20, 22, 24);
    breaks(0, 1, 1, 3, 5, 7, 9, 11, 13, 15, 17, 19, 21, 23);
    breaks(1, 5, 1, 4, 7, 10, 13, 16, 19, 22);
    breaks(9, 0, 0, 11, 22);
    breaks(9, 5, 6, 17);
    for (int note = 0; note <= 23; note++) Due.is("BREAKING on " + note, forceOf(5, 3, note), 8 + note / 2);
    ChoirRoof x = new ChoirRoof();
    x.singer(5, 0, 0);
    x.sing(0, 0);
    Due.is("BREAKING, 0 is a multiple", x.of(0, 5), 0);
    Due.read(x, "loud 6 s=0");
    Due.is("BREAKING, the STRENGTH alone is 0", x.of(0, 5), 6);
  }

  private static void toldOnes() {
    Due.sentence(5, "TOLD: as STRONG, and its ROW at BEAT modulo 4.");
    ChoirRoof x = new ChoirRoof();
    for (int i = 0; i < 6; i++) x.singer(6, 4, 0);
    Due.read(x, "weary 0");
    for (int k = 0; k < 4; k++) {
      x.row(0, k, 2 * k + 1);
      x.row(5, k, 9 - k);
    }
    x.sing(0, 0);
    x.sing(5, 0);
    int[] first = {15, 17, 19, 21};
    int[] last = {23, 22, 21, 20};
    for (int b = 0; b <= 9; b++) {
      Due.is("of(0, 5) at BEAT " + b, x.of(0, 5), first[b % 4]);
      Due.is("of(5, 5) at BEAT " + b, x.of(5, 5), last[b % 4]);
      x.beat();
    }
  }

  private static void tune() {
    Due.sentence(5, "if their NOTES are 0, 3, 4, 5, 7, 8 or 9 apart modulo 12.");
    boolean[] in = {true, false, false, true, true, true, false, true, true, true, false, false};
    for (int a = 0; a <= 23; a++) {
      for (int b = 0; b <= 23; b++) {
        ChoirRoof x = new ChoirRoof();
        x.singer(0, 0, a);
        x.singer(0, 0, b);
        x.sing(0, a);
        x.sing(1, b);
        int due = in[Math.abs(a - b) % 12] ? 1 : 0;
        Due.is("of(0, 7), " + a + " and " + b, x.of(0, 7), due);
        Due.is("of(1, 7), " + a + " and " + b, x.of(1, 7), due);
      }
    }
    Due.sentence(5, "IN TUNE are two SINGERS who sing");
    ChoirRoof y = Due.choir(0, 0, -1, -1);
    Due.is("of(0, 7): not with itself, nor with who rests", y.of(0, 7), 1);
    Due.is("of(2, 7): two who rest are not", y.of(2, 7), 0);
    ChoirRoof z = Due.choir(11, -1);
    Due.is("of(0, 7): a rest is no note", z.of(0, 7), 0);
    ChoirRoof w = Due.choir(0, 0, 0, 0, 0, 0);
    Due.is("of(5, 7): all of six", w.of(5, 7), 5);
  }

  private static void bears() {
    Due.sentence(5, "times how many others it is IN TUNE with (none: the half of its FORCE, cut).");
    for (int v = 0; v <= 9; v++) {
      ChoirRoof x = new ChoirRoof();
      x.singer(3, v, 0);
      x.singer(3, v, 0);
      x.sing(0, 0);
      Due.is("of(0, 6), alone, FORCE " + (10 + v), x.of(0, 6), (10 + v) / 2);
      x.sing(1, 1);
      Due.is("of(0, 6), out of tune, FORCE " + (10 + v), x.of(0, 6), (10 + v) / 2);
      x.sing(1, 0);
      Due.is("of(0, 6), with one, FORCE " + (10 + v), x.of(0, 6), 10 + v);
    }
    Due.is("of(0, 6), with five", Due.choir(0, 0, 0, 0, 0, 0).of(0, 6), 50);
    ChoirRoof y = Due.choir(0, 0);
    Due.read(y, "draught 9 s=0;draught 10 s=1");
    Due.is("of(0, 6), FORCE 1 with one", y.of(0, 6), 1);
    Due.is("of(1, 6), FORCE 0 with one", y.of(1, 6), 0);
    y.sing(1, -1);
    Due.is("of(0, 6), the half of 1", y.of(0, 6), 0);
    Due.sentence(5, "One who rests bears nothing.");
    Due.is("of(0, 6), rests", Due.choir(-1, 0, 0).of(0, 6), 0);
    Due.is("told(3): just those who sing", Due.choir(-1, 0, 0).told(3), 20);
    Due.is("told(3): all rest", Due.choir(-1, -1).told(3), 0);
  }

  private static void row() {
    Due.sentence(6, "NONE: singer, k; BAD; STATE: another KIND.");
    for (int kind = 0; kind <= 5; kind++) {
      ChoirRoof x = new ChoirRoof();
      x.singer(kind, 0, 0);
      for (int k = 0; k < 4; k++) Due.is("row(0, " + k + ", 9) of KIND " + kind, x.row(0, k, 9), -3);
    }
    ChoirRoof y = new ChoirRoof();
    y.singer(6, 0, 0);
    for (int i : new int[] {-1, 1, 6, MIN, MAX}) Due.is("row(" + i + ", 0, 0)", y.row(i, 0, 0), -1);
    Due.sentence(6, "becomes n (0 .. 9) for k (0 .. 3): what it was.");
    for (int k = 0; k < 4; k++) y.row(0, k, k + 4);
    for (int k = 0; k < 4; k++) Due.is("row(0, " + k + ", 9)", y.row(0, k, 9), k + 4);
    for (int k = 0; k < 4; k++) Due.is("row(0, " + k + ", 0)", y.row(0, k, 0), 9);
  }

  /** One who begins at LOW: which notes of -3 to 26 are sung, from the least to the most. */
  private static void range(int low, int least, int most) {
    for (int note = -3; note <= 26; note++) {
      ChoirRoof x = new ChoirRoof();
      x.singer(0, 0, low);
      boolean may = note == -1 || note >= least && note <= most;
      Due.is("sing(0, " + note + "), LOW " + low, x.sing(0, note), may ? -5 : -2);
      Due.is("of(0, 3) behind it", x.of(0, 3), may && note >= 0 ? note : -5);
    }
  }

  private static void sing() {
    Due.sentence(7, "its RANGE is LOW and the 11 above, 23 at most");
    range(0, 0, 11);
    range(1, 1, 12);
    range(11, 11, 22);
    range(12, 12, 23);
    range(13, 13, 23);
    range(22, 22, 23);
    range(23, 23, 23);
    Due.sentence(7, "A SINGER sings a NOTE from now on (-1: it rests): what it was (-5).");
    ChoirRoof x = Due.choir(-1);
    Due.is("sing(0, 0)", x.sing(0, 0), -5);
    Due.is("sing(0, 11), it was 0", x.sing(0, 11), 0);
    Due.is("sing(0, 11) again", x.sing(0, 11), 11);
    Due.is("sing(0, -1)", x.sing(0, -1), 11);
    Due.is("sing(0, -1) again", x.sing(0, -1), -5);
    Due.sentence(7, "NONE; BAD: not in its RANGE.");
    for (int i : new int[] {-1, 1, 6, MIN, MAX}) Due.is("sing(" + i + ", 0)", x.sing(i, 0), -1);
    for (int note : new int[] {-2, 12, 24, MIN, MAX}) Due.is("sing(0, " + note + ")", x.sing(0, note), -2);
    Due.is("of(0, 3): still rests", x.of(0, 3), -5);
  }

  private static void tire() {
    Due.sentence(8, "TIRED of a SINGER becomes n: what it was. NONE; BAD.");
    ChoirRoof x = Due.choir(0, 0);
    for (int n : new int[] {-1, 100, MIN, MAX}) Due.is("tire(0, " + n + ")", x.tire(0, n), -2);
    for (int i : new int[] {-1, 2, 6, MIN, MAX}) Due.is("tire(" + i + ", 0)", x.tire(i, 0), -1);
    Due.is("tire(0, 99)", x.tire(0, 99), 0);
    Due.is("tire(0, 0)", x.tire(0, 0), 99);
    Due.is("tire(0, 50)", x.tire(0, 50), 0);
    Due.is("of(0, 4)", x.of(0, 4), 50);
    Due.is("of(1, 4): another one", x.of(1, 4), 0);
  }

  private static void stone() {
    Due.sentence(9, "STONES are numbered from 0 on, 6 at most");
    ChoirRoof x = new ChoirRoof();
    for (int i = 0; i < 6; i++) Due.is("stone(7)", x.stone(7), i);
    Due.is("stone(7), a 7.", x.stone(7), -4);
    Due.is("count(1)", x.count(1), 6);
    Due.is("at(5, 0)", x.at(5, 0), 7);
    Due.is("at(6, 0)", x.at(6, 0), -1);
    Due.sentence(9, "each with a WEIGHT (1 .. 60)");
    ChoirRoof y = new ChoirRoof();
    for (int w : new int[] {-1, 0, 61, MIN, MAX}) Due.is("stone(" + w + ")", y.stone(w), -2);
    Due.is("count(1)", y.count(1), 0);
    Due.is("stone(1)", y.stone(1), 0);
    Due.is("stone(60)", y.stone(60), 1);
    Due.is("at(0, 0)", y.at(0, 0), 1);
    Due.is("at(1, 0)", y.at(1, 0), 60);
  }

  private static void at() {
    Due.sentence(10, "PROPPED or not (not at first), FALLEN or not.");
    ChoirRoof x = Due.stones(new ChoirRoof(), 1, 1, 1, 1, 1, 1);
    for (int s = 0; s < 6; s++) {
      Due.is("at(" + s + ", 1)", x.at(s, 1), 0);
      Due.is("at(" + s + ", 2)", x.at(s, 2), 0);
    }
    x.prop(0, true);
    x.beat();
    Due.is("at(0, 1), propped", x.at(0, 1), 1);
    Due.is("at(0, 2), propped", x.at(0, 2), 0);
    Due.is("at(5, 2), fallen", x.at(5, 2), 1);
    Due.sentence(10, "2 FALLEN, 3 LOOSE (1, 0 each). NONE.");
    for (int what : new int[] {-1, 4, MIN, MAX}) Due.is("at(0, " + what + ")", x.at(0, what), -1);
    for (int s : new int[] {-1, 6, MIN, MAX}) Due.is("at(" + s + ", 0)", x.at(s, 0), -1);
    Due.is("at(1, 0) of two, a 2. one", Due.stones(new ChoirRoof(), 1).at(1, 0), -1);
    Due.sentence(10, "as long as their WEIGHTS, together, are no more than ALL");
    Due.is("at(0, 3), 5 by 5", Due.stones(Due.choir(0), 5).at(0, 3), 0);
    Due.is("at(0, 3), 6 by 5", Due.stones(Due.choir(0), 6).at(0, 3), 1);
    Due.is("at(1, 3), 2 and 3 by 5", Due.stones(Due.choir(0), 2, 3).at(1, 3), 0);
    Due.is("at(1, 3), 2 and 4 by 5", Due.stones(Due.choir(0), 2, 4).at(1, 3), 1);
    Due.is("at(0, 3), 2 and 4 by 5", Due.stones(Due.choir(0), 2, 4).at(0, 3), 0);
    Due.is("at(0, 3), 1 by 0", Due.stones(new ChoirRoof(), 1).at(0, 3), 1);
    Due.is("told(4), 6 times 60 by 300", Due.stones(Due.choir(0, 0, 0, 0, 0, 0), 60, 60, 60, 60, 60, 60).told(4), 32);
    Due.sentence(10, "the first one by which they are more, and all that hang behind it, are LOOSE.");
    Due.is("told(4), a light one behind", Due.stones(Due.choir(0), 6, 1).told(4), 3);
    Due.is("told(4), a light one ahead, too", Due.stones(Due.choir(0), 1, 6, 1).told(4), 6);
    ChoirRoof y = Due.stones(Due.choir(0), 1, 6, 1, 1);
    y.prop(2, true);
    Due.is("told(4), a propped one behind", y.told(4), 10);
    y.prop(1, true);
    Due.is("told(4), the heavy one propped", y.told(4), 0);
    ChoirRoof z = Due.stones(Due.choir(0), 6, 4, 2);
    z.beat();
    Due.is("told(4), all fallen", z.told(4), 0);
    z.stone(5);
    Due.is("told(4): what has fallen is not borne", z.told(4), 0);
    z.stone(1);
    Due.is("told(4), one more", z.told(4), 16);
  }

  private static void prop() {
    Due.sentence(11, "A STONE is PROPPED, or not: whether it was. NONE; STATE: it is FALLEN.");
    ChoirRoof x = Due.stones(new ChoirRoof(), 5, 5);
    Due.is("prop(0, false), it was not", x.prop(0, false), 0);
    Due.is("prop(0, true)", x.prop(0, true), 0);
    Due.is("prop(0, true) again", x.prop(0, true), 1);
    for (int s : new int[] {-1, 2, 6, MIN, MAX}) Due.is("prop(" + s + ", true)", x.prop(s, true), -1);
    x.beat();
    Due.is("prop(1, true), fallen", x.prop(1, true), -3);
    Due.is("prop(1, false), fallen", x.prop(1, false), -3);
    Due.is("at(1, 1)", x.at(1, 1), 0);
    Due.is("at(1, 2)", x.at(1, 2), 1);
    Due.is("prop(0, false), propped", x.prop(0, false), 1);
    Due.is("prop(0, false) again", x.prop(0, false), 0);
    Due.is("told(4): it hangs again", x.told(4), 1);
  }

  private static void told() {
    Due.sentence(12, "What 0 BEAT, 1 EASE, 2 WEARY, 3 ALL, 4 LOOSE ones (bits), 5 how many are FALLEN. NONE.");
    ChoirRoof x = Due.stones(Due.choir(0), 6, 1, 1, 1, 1, 1);
    for (int what : new int[] {-1, 6, MIN, MAX}) Due.is("told(" + what + ")", x.told(what), -1);
    Due.is("told(3)", x.told(3), 5);
    Due.is("told(4)", x.told(4), 63);
    Due.is("told(5)", x.told(5), 0);
    x.beat();
    Due.is("told(0)", x.told(0), 1);
    Due.is("told(4) behind", x.told(4), 0);
    Due.is("told(5) behind", x.told(5), 6);
  }

  private static int tiredBehind(String setting, int note, int tired) {
    ChoirRoof x = Due.choir(note);
    Due.read(x, setting);
    x.tire(0, tired);
    x.beat();
    return x.of(0, 4);
  }

  private static void beat() {
    Due.sentence(13, "A BEAT goes: all that are LOOSE fall");
    ChoirRoof x = Due.stones(Due.choir(0), 3, 2, 1, 60, 1);
    x.prop(4, true);
    Due.is("beat()", x.beat(), 2);
    for (int s = 0; s < 5; s++) Due.is("at(" + s + ", 2)", x.at(s, 2), s == 2 || s == 3 ? 1 : 0);
    Due.is("beat() again", x.beat(), 0);
    Due.is("told(5)", x.told(5), 2);
    ChoirRoof y = Due.stones(Due.choir(0, 0), 20);
    y.tire(0, 9);
    Due.is("beat(): what is LOOSE is so ahead of the BEAT", y.beat(), 0);
    Due.is("beat(): more TIRED by now", y.beat(), 1);
    Due.sentence(13, "TIRED of who sings is WEARY more (99 at most), of who rests EASE less (0 at least)");
    Due.is("98 and 1", tiredBehind("weary 1", 0, 98), 99);
    Due.is("99 and 1", tiredBehind("weary 1", 0, 99), 99);
    Due.is("98 and 2", tiredBehind("weary 2", 0, 98), 99);
    Due.is("0 and 99", tiredBehind("weary 99", 0, 0), 99);
    Due.is("1 and 99", tiredBehind("weary 99", 0, 1), 99);
    Due.is("5 and 0", tiredBehind("weary 0", 0, 5), 5);
    Due.is("4 less 3", tiredBehind("ease 3", -1, 4), 1);
    Due.is("3 less 3", tiredBehind("ease 3", -1, 3), 0);
    Due.is("2 less 3", tiredBehind("ease 3", -1, 2), 0);
    Due.is("0 less 3", tiredBehind("ease 3", -1, 0), 0);
    Due.is("99 less 98", tiredBehind("ease 98", -1, 99), 1);
    Due.is("98 less 99", tiredBehind("ease 99", -1, 98), 0);
    Due.is("5 less 0", tiredBehind("ease 0", -1, 5), 5);
    Due.sentence(13, "BEAT is 1 more.");
    ChoirRoof z = new ChoirRoof();
    for (int b = 0; b < 3; b++) {
      z.beat();
      Due.is("told(0)", z.told(0), b + 1);
    }
  }

  /** More calls than are promised, but no other way leads to the last beat. */
  private static void lastBeat() {
    Due.sentence(13, "A BEAT goes: how many STONES fall. STATE: BEAT is 99999.");
    ChoirRoof x = Due.choir(0, -1);
    for (int b = 0; b < 99998; b++) x.beat();
    Due.is("told(0), the last but one", x.told(0), 99998);
    Due.is("beat(), the last but one", x.beat(), 0);
    Due.is("told(0), the last", x.told(0), 99999);
    x.stone(60);
    x.tire(0, 5);
    x.tire(1, 5);
    Due.is("beat(), the last", x.beat(), -3);
    Due.is("told(0), nothing is changed", x.told(0), 99999);
    Due.is("told(5), nothing is changed", x.told(5), 0);
    Due.is("of(0, 4), nothing is changed", x.of(0, 4), 5);
    Due.is("of(1, 4), nothing is changed", x.of(1, 4), 5);
    Due.sentence(14, "goes on from how all is (BEATS beyond 99999, too), and changes nothing.");
    Due.read(x, "loud 20 b=0;weary 0;ease 0");
    Due.is("on(1, 2)", x.on(1, 2), 15);
    Due.is("on(2, 2)", x.on(2, 2), 5);
    Due.is("on(40, 1)", x.on(40, 1), 1);
    Due.is("steady()", x.steady(), 0);
    Due.is("shift(8, 1)", x.shift(8, 1), 1);
    Due.is("canon(30, 0)", x.canon(30, 0), 1);
    Due.is("mean(2, 0)", x.mean(2, 0), 10);
    x.plan(0, 0);
    Due.is("planned(1)", x.planned(1), 15);
    x.dust(1, 1);
    Due.is("flat()", x.flat(), 1);
    Due.is("told(0)", x.told(0), 99999);
  }
}
