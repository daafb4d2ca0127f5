/** Whole sentences of promises 14 to 22, with ordinary numbers. */
final class WholeBeats {
  private WholeBeats() {
  }

  static void run() {
    on();
    steady();
    best();
    chord();
    needed();
    spare();
    shift();
    ill();
    canon();
    lastOnes();
  }

  /** Three in tune, TIRED by 10 a BEAT: ALL is 60, 54, 48 .. 6; and one who rests, TIRED 50. */
  private static ChoirRoof tiring() {
    ChoirRoof x = Due.stones(Due.choir(0, 4, 7, -1), 20, 25, 10);
    Due.read(x, "weary 10");
    x.tire(3, 50);
    return x;
  }

  private static void on() {
    Due.sentence(14, "ON n BEATS (0 .. 40), NOTES staying: how many STONES have FALLEN behind them; the first BEAT (from 1 on) "
        + "behind which one more has FALLEN than now (-5: none); TIRED of one; ALL.");
    ChoirRoof x = tiring();
    // 55 by 54 ahead of the second BEAT, 45 by 42 ahead of the fourth, 20 by 18 ahead of the eighth.
    int[] fallen = {0, 0, 1, 1, 2, 2, 2, 2, 3, 3, 3};
    int[] all = {60, 54, 48, 42, 36, 30, 24, 18, 12, 6, 6};
    int[] rested = {50, 47, 44, 41, 38, 35, 32, 29, 26, 23, 20};
    for (int n = 0; n <= 10; n++) {
      Due.is("on(" + n + ", 0)", x.on(n, 0), fallen[n]);
      Due.is("on(" + n + ", 1)", x.on(n, 1), n < 2 ? -5 : 2);
      Due.is("on(" + n + ", 2)", x.on(n, 2), all[n]);
      Due.is("on(" + n + ", 11)", x.on(n, 11), Math.min(99, 10 * n));
      Due.is("on(" + n + ", 13)", x.on(n, 13), rested[n]);
    }
    Due.sentence(14, "ON: what 0 FALLEN, 1 the first BEAT, 2 ALL, 10 and s TIRED of SINGER s; -5. NONE; BAD: n.");
    for (int b = 0; b < 3; b++) x.beat();
    int[] due = {2, 1, 36, -1};
    for (int what = 0; what <= 3; what++) Due.is("on(1, " + what + ") at BEAT 3", x.on(1, what), due[what]);
    Due.is("on(2, 12) at BEAT 3", x.on(2, 12), 50);
    Due.is("on(2, 13) at BEAT 3", x.on(2, 13), 35);
    Due.is("on(2, 14): nobody", x.on(2, 14), -1);
    Due.is("on(44, 2)", x.on(44, 2), -2);
    Due.is("on(0, 1) at BEAT 3", x.on(0, 1), -5);
  }

  private static void steady() {
    Due.sentence(15, "STEADY: the fewest BEATS (0 .. 60) behind which some STONE is LOOSE (-5: none).");
    ChoirRoof x = tiring();
    int[] due = {1, 0, 1, 0, 3, 2, 1, 0, -5};
    for (int b = 0; b < due.length; b++) {
      Due.is("steady() at BEAT " + b, x.steady(), due[b]);
      x.beat();
    }
    Due.sentence(15, "`int steady()`: STEADY; -5.");
    ChoirRoof y = Due.stones(Due.choir(0, 4, 7), 48);
    Due.is("steady(), 48 by 48 behind 20 to 29", y.steady(), 30);
    y.prop(0, true);
    Due.is("steady(), PROPPED", y.steady(), -5);
  }

  private static void best() {
    Due.sentence(16, "BEST of one: the NOTE in its RANGE by which, did it sing that now, ALL is most (of several the least); that ALL.");
    ChoirRoof x = WholeSingers.five();
    // In tune with 0, 4, 7 and 1 is 4 alone: 13 * 3, 10 * 4, 11 * 3, 12 * 2, 10 * 4.
    Due.is("best(4, 0)", x.best(4, 0), 4);
    Due.is("best(4, 1)", x.best(4, 1), 13 * 3 + 10 * 4 + 11 * 3 + 12 * 2 + 10 * 4);
    ChoirRoof y = Due.choir(-1);
    y.singer(0, 0, 5);
    Due.read(y, "draught 99 s=1;draught 10 s=0;loud 2 n=4;loud 2 n=6");
    Due.is("best(1, 0): 0 by all notes", y.best(1, 0), 5);
    Due.is("best(1, 1): 0 by all notes", y.best(1, 1), 0);
    Due.is("best(0, 0): 1 by two notes, else 0", y.best(0, 0), 4);
    Due.is("best(0, 1): 1 by two notes, else 0", y.best(0, 1), 1);
  }

  private static void chord() {
    Due.sentence(17, "CHORD: of all ways in which each sings a NOTE of its LOW, 2, 4, 5, 7 above it (23 at most each), that by "
        + "which ALL is most (of several the first as a row by SINGERS, the lower note first) (5 SINGERS at most, else -9): "
        + "ALL; the NOTE of one.");
    ChoirRoof x = new ChoirRoof();
    x.singer(0, 0, 0);
    x.singer(0, 0, 1);
    x.singer(1, 0, 2);
    // By 0, 3, 7 all three are in tune; with 0 and 3 no lower one is, with 0 and 1 none.
    Due.is("chord(-1)", x.chord(-1), 2 * (10 + 10 + 12));
    int[] notes = {0, 3, 7, -5, -5};
    for (int k = 0; k <= 4; k++) Due.is("chord(" + k + ")", x.chord(k), notes[k]);
    Due.sentence(17, "`int chord(int k)`: CHORD: k -1 ALL, else the NOTE of SINGER k (-5: there is no such); -9.");
    ChoirRoof y = Due.choir(-1);
    Due.read(y, "draught 10 s=0;loud 2 n=4;loud 2 n=5");
    Due.is("chord(-1): 1 by two notes, else 0", y.chord(-1), 1);
    Due.is("chord(0): 1 by two notes, else 0", y.chord(0), 4);
    Due.is("chord(1)", y.chord(1), -5);
    Due.read(y, "draught 99 s=0");
    Due.is("chord(-1): 0 by all notes", y.chord(-1), 0);
    Due.is("chord(0): 0 by all notes", y.chord(0), 0);
    for (int i = 1; i < 6; i++) y.singer(0, 0, 0);
    Due.is("chord(1) of six", y.chord(1), -9);
  }

  private static void needed() {
    Due.sentence(18, "NEEDED: who, if that one rested, would make ALL least (of those who sing; of several the first; -5: nobody sings)");
    ChoirRoof x = WholeSingers.five();
    // Without each of them: 43, 30, 45, 68.
    Due.is("needed()", x.needed(), 1);
    x.sing(1, -1);
    // Of 13 and 11 in tune and 6 alone without each: 11, 12, 24.
    Due.is("needed(), without the second", x.needed(), 0);
    Due.sentence(18, "`int needed()`: NEEDED; -5.");
    x.sing(0, -1);
    x.sing(2, -1);
    Due.is("needed(), the fourth alone", x.needed(), 3);
    x.sing(3, -1);
    Due.is("needed(), nobody", x.needed(), -5);
  }

  private static void spare() {
    Due.sentence(19, "SPARE: those who sing, as bits, each of whom could rest now without any STONE more being LOOSE.");
    int[][] due = {{30, 15}, {31, 13}, {43, 13}, {44, 12}, {45, 12}, {46, 8}};
    for (int[] d : due) Due.is("spare(), by " + d[0], Due.stones(WholeSingers.five(), d[0]).spare(), d[1]);
    Due.is("spare(), 68", Due.stones(WholeSingers.five(), 60, 8).spare(), 8);
    Due.is("spare(), 69", Due.stones(WholeSingers.five(), 60, 9).spare(), 0);
    Due.is("spare(), one LOOSE by 90, as by 43, 45, 68", Due.stones(WholeSingers.five(), 40, 60).spare(), 13);
    Due.sentence(19, "`int spare()`: SPARE (bits).");
    ChoirRoof x = Due.stones(WholeSingers.five(), 60, 60);
    x.prop(0, true);
    Due.is("spare(), one PROPPED", x.spare(), 8);
    x.prop(1, true);
    Due.is("spare(), both PROPPED", x.spare(), 15);
  }

  private static void shift() {
    Due.sentence(20, "SHIFT of n BEATS (1 .. 8): BEAT by BEAT that set of those who sing now sings, with their NOTES (all others "
        + "rest), by which nothing is LOOSE then, with the fewest SINGERS (of several the least as bits; there is none: all of "
        + "them): TIRED of all, together, behind n; how many STONES are FALLEN then; the set of the last BEAT.");
    ChoirRoof x = Due.stones(Due.choir(0, 4, 7, -1), 12);
    Due.read(x, "weary 10;ease 5");
    x.tire(3, 33);
    // Ahead of the sixth BEAT 5 and 5 are too few, 5 and 10 are not; ahead of the eighth 6 and 8 alone are enough.
    int[] sets = {3, 3, 3, 3, 3, 5, 5, 6};
    int[] tired = {20 + 28, 40 + 23, 60 + 18, 80 + 13, 100 + 8, 60 + 45 + 10 + 3, 70 + 40 + 20, 65 + 50 + 30};
    for (int n = 1; n <= 8; n++) {
      Due.is("shift(" + n + ", 0)", x.shift(n, 0), tired[n - 1]);
      Due.is("shift(" + n + ", 1)", x.shift(n, 1), 0);
      Due.is("shift(" + n + ", 2)", x.shift(n, 2), sets[n - 1]);
    }
    ChoirRoof y = Due.stones(WholeSingers.five(), 40, 60, 44);
    Due.is("shift(1, 2), none: all of them", y.shift(1, 2), 15);
    Due.is("shift(1, 1), none: all of them", y.shift(1, 1), 2);
    // Without the first 43, the third 45, the fourth 68; the first two 23, so that 40 takes three.
    Due.is("shift(2, 2), 40 is left", y.shift(2, 2), 7);
    Due.is("shift(2, 0), 40 is left", y.shift(2, 0), 2 + 2 + 2 + 0);
  }

  private static void ill() {
    Due.sentence(21, "ILL of one: which other one of those who rest should sing in its place, and what NOTE of its RANGE, so that "
        + "ALL is most (of several the first, the lesser NOTE): 100 times who, and the NOTE (-5: nobody else rests, or it does not sing).");
    ChoirRoof x = new ChoirRoof();
    int[][] people = {{3, 0}, {0, 0}, {1, 9}, {2, 12}, {0, 0}};
    for (int[] p : people) x.singer(p[0], 0, p[1]);
    x.sing(0, 0);
    x.sing(1, 4);
    // With 4 a BASS bears 12 at most, a BOY 8 and the half of 23, 19 apart.
    Due.is("ill(0)", x.ill(0), 323);
    // With 0 a BOY bears 8 and 10 on 20 and on 21; on 22 and 23 he is out of tune.
    Due.is("ill(1)", x.ill(1), 320);
    Due.is("ill(2), it rests", x.ill(2), -5);
    ChoirRoof y = Due.choir(0, -1, -1, 4);
    Due.read(y, "loud 5 s=1");
    Due.is("ill(0): the stronger one is the first", y.ill(0), 100);
    Due.read(y, "loud 5 s=2;loud 3 s=1");
    Due.is("ill(0): the stronger one is the second", y.ill(0), 200);
    Due.read(y, "draught 99 s<9");
    Due.is("ill(3): 0 by all", y.ill(3), 100);
    ChoirRoof z = Due.choir(0);
    z.singer(0, 0, 7);
    z.singer(0, 0, 3);
    Due.read(z, "draught 99 s>0");
    Due.is("ill(0): 0 by all, the least of its RANGE", z.ill(0), 107);
  }

  private static void canon() {
    Due.sentence(22, "CANON of n BEATS (1 .. 30): if behind each BEAT all NOTES go round by numbers (one has then the NOTE, or the "
        + "rest, of the one ahead; who can not sing it rests): how many STONES have FALLEN behind n; the least ALL ahead of any of these BEATS.");
    ChoirRoof x = new ChoirRoof();
    int[] kinds = {3, 0, 1};
    for (int kind : kinds) x.singer(kind, 5, 0);
    x.sing(0, 0);
    x.sing(2, 7);
    Due.stones(x, 20, 6);
    // 15 on 0 and 12 on 7; then 15 on 7 and 10 on 0; then 10 on 7 and 12 on 0.
    int[] fallen = {0, 1, 1, 1, 1};
    int[] least = {27, 25, 22, 22, 22};
    for (int n = 1; n <= 5; n++) {
      Due.is("canon(" + n + ", 0)", x.canon(n, 0), fallen[n - 1]);
      Due.is("canon(" + n + ", 1)", x.canon(n, 1), least[n - 1]);
    }
    ChoirRoof y = new ChoirRoof();
    y.singer(0, 0, 0);
    y.singer(3, 5, 8);
    y.sing(1, 9);
    y.sing(0, 5);
    // 5 and 9 are in tune; then 5 can not be sung by the second, and 9 is alone.
    Due.is("canon(1, 1), two", y.canon(1, 1), 25);
    Due.is("canon(2, 1), two", y.canon(2, 1), 5);
    Due.is("canon(3, 1), two: 9 is the second's again", y.canon(3, 1), 5);
    y.stone(5);
    y.stone(1);
    Due.is("canon(1, 0), two", y.canon(1, 0), 0);
    Due.is("canon(30, 0), two", y.canon(30, 0), 1);
  }

  /** The sixth singer and the sixth stone are in all that is asked about beats to come. */
  private static void lastOnes() {
    Due.sentence(14, "goes on from how all is (BEATS beyond 99999, too), and changes nothing.");
    ChoirRoof x = Due.choir(-1, -1, -1, -1, -1);
    x.singer(6, 7, 12);
    x.row(5, 0, 3);
    x.row(5, 3, 9);
    x.sing(5, 15);
    Due.read(x, "weary 5;loud 4 s=5&k=6&v=7&n=15;loud 2 s=5&n=12");
    // 17, the row's 3, 0, 0, 9, and 4; less 0, 0, 1, 1 for being TIRED: 24, 21, 20, 29.
    int[] all = {12, 10, 10, 14};
    for (int n = 0; n <= 3; n++) Due.is("on(" + n + ", 2)", x.on(n, 2), all[n]);
    Due.is("on(3, 15)", x.on(3, 15), 15);
    Due.is("mean(4, 0)", x.mean(4, 0), 23);
    Due.is("mean(4, 1)", x.mean(4, 1), 2);
    Due.is("best(5, 0)", x.best(5, 0), 15);
    Due.is("best(5, 1)", x.best(5, 1), 12);
    Due.is("canon(1, 1)", x.canon(1, 1), 12);
    Due.is("shift(4, 2), no stones", x.shift(4, 2), 0);
    for (int s = 0; s < 5; s++) x.stone(60);
    x.stone(10);
    for (int s = 0; s < 5; s++) x.prop(s, true);
    Due.is("on(3, 0)", x.on(3, 0), 0);
    Due.is("shift(3, 2)", x.shift(3, 2), 32);
    Due.is("shift(3, 0)", x.shift(3, 0), 15);
    Due.is("steady()", x.steady(), 5);
    x.dust(5, 0);
    Due.is("flat(): 20 and 2 are more than 14", x.flat(), 0);
    x.dust(-1, 0);
    x.dust(1, 0);
    Due.is("flat(): 20 by 10", x.flat(), 32);
    x.plan(5, 12);
    Due.is("planned(0): 22 by 10", x.planned(0), 0);
    Due.is("planned(1)", x.planned(1), 9);
    x.prop(5, true);
    x.sing(5, -1);
    Due.is("on(1, 0): the sixth STONE is PROPPED", x.on(1, 0), 0);
    x.prop(5, false);
    Due.is("on(1, 0): it is not", x.on(1, 0), 1);
    x.beat();
    Due.is("on(0, 0): it is FALLEN", x.on(0, 0), 1);
    Due.is("on(1, 1): it is FALLEN", x.on(1, 1), -5);
  }
}
