/** Whole sentences of promises 23 to 35, with ordinary numbers. */
final class WholeStones {
  private static final long NO = Long.MIN_VALUE;

  private WholeStones() {
  }

  static void run() {
    props();
    critical();
    load();
    dust();
    flat();
    order();
    odds();
    mean();
    wage();
    plan();
    book();
  }

  private static void props() {
    Due.sentence(23, "PROPS of n (0 .. 3): the fewest of STONES that must be PROPPED so that nothing is LOOSE now (-5: more than n).");
    ChoirRoof x = Due.stones(WholeSingers.five(), 25, 60, 8, 40, 35);
    // 168 by 90: 60 and 40 less leave 68, any one less is more than 90.
    int[] due = {-5, -5, 2, 2};
    for (int n = 0; n <= 3; n++) Due.is("props(" + n + ")", x.props(n), due[n]);
    x.prop(4, true);
    Due.is("props(1), 133 by 90", x.props(1), 1);
    x.sing(1, -1);
    Due.is("props(3), 133 by 30", x.props(3), 3);
    Due.is("props(2), 133 by 30", x.props(2), -5);
    Due.is("props(5)", x.props(5), -2);
  }

  private static void critical() {
    Due.sentence(24, "CRITICAL: those pairs of SINGERS who sing (10 times the lesser and the greater number), neither of whom alone "
        + "makes any STONE more LOOSE by resting, but both together do: how many there are; the first (-5: none).");
    // Without one: 43, 30, 45, 68. Without 0 and 1: 11, 0 and 2: 22, 0 and 3: 21, 1 and 2: 12, 1 and 3: 24, 2 and 3: 23.
    int[][] due = {{11, 0, -5}, {12, 1, 1}, {13, 2, 1}, {22, 3, 1}, {23, 4, 1}, {24, 5, 1}, {25, 6, 1}, {30, 6, 1}, {31, 3, 2},
        {43, 3, 2}, {44, 1, 23}, {45, 1, 23}, {46, 0, -5}};
    for (int[] d : due) {
      ChoirRoof x = Due.stones(WholeSingers.five(), d[0]);
      Due.is("critical(0), by " + d[0], x.critical(0), d[1]);
      Due.is("critical(1), by " + d[0], x.critical(1), d[2]);
    }
    ChoirRoof y = Due.stones(WholeSingers.five(), 20, 60, 60);
    // One is LOOSE by 90; two by 43, 30, 45, 68; so each alone makes one more so.
    Due.is("critical(0), each alone", y.critical(0), 0);
    ChoirRoof z = Due.stones(WholeSingers.five(), 24, 60, 60);
    z.prop(1, true);
    // One is LOOSE by 84 to 30; both by 23 and less: all pairs but the second and the fourth.
    Due.is("critical(0), one LOOSE already", z.critical(0), 0);
    z.prop(2, true);
    Due.is("critical(0), 24 alone", z.critical(0), 5);
  }

  private static void load() {
    Due.sentence(25, "LOAD: WEIGHTS of all that hang (not PROPPED, not FALLEN), together, less ALL (may be below 0).");
    ChoirRoof x = Due.stones(WholeSingers.five(), 40, 30, 15, 10, 20);
    Due.is("load()", x.load(), 115 - 90);
    x.prop(1, true);
    Due.is("load(), 30 PROPPED", x.load(), 85 - 90);
    x.prop(1, false);
    x.beat();
    Due.is("load(), 10 and 20 FALLEN", x.load(), 85 - 90);
    x.prop(0, true);
    Due.is("load(), 40 PROPPED", x.load(), 45 - 90);
    Due.sentence(25, "`int load()`: LOAD.");
    x.sing(1, -1);
    Due.is("load(), the second rests", x.load(), 45 - 30);
  }

  private static void dust() {
    Due.sentence(26, "DUST told by hand: a BEAT from now (0 .. 40) and how many STONES are FALLEN behind so many BEATS; 6 at most.");
    ChoirRoof x = Due.choir(0, 4, 7);
    int[][] rows = {{12, 3}, {0, 0}, {33, 5}, {7, 1}, {12, 3}, {40, 6}};
    for (int i = 0; i < 6; i++) Due.is("dust(" + rows[i][0] + ", " + rows[i][1] + ")", x.dust(rows[i][0], rows[i][1]), i + 1);
    Due.is("dust(5, 5), a 7.", x.dust(5, 5), -4);
    Due.is("count(3)", x.count(3), 6);
    Due.sentence(26, "What DUST tells comes: how many there are (beats -1: none then, 0, whatever the other is). BAD: beats, fallen (0 .. 6); FULL: 6.");
    Due.is("dust(-1, 4)", x.dust(-1, 4), 0);
    Due.is("count(3)", x.count(3), 0);
    Due.is("dust(52, 4)", x.dust(52, 4), -2);
    Due.is("dust(5, 9)", x.dust(5, 9), -2);
    Due.is("dust(5, 4)", x.dust(5, 4), 1);
  }

  private static void flat() {
    Due.sentence(27, "FLAT: those who sing, as bits, by each of whom, did it sing one NOTE lower from now on (0 at least), all of DUST is so.");
    ChoirRoof x = Due.stones(Due.choir(0, 4, 7, -1), 40);
    for (int i = 0; i < 3; i++) x.tire(i, 1);
    Due.is("flat(), no DUST", x.flat(), 7);
    // 0 stays, 3 is in tune with 0 and 7; 6 with none: 25.
    x.dust(1, 1);
    Due.is("flat(), fallen by the first BEAT", x.flat(), 4);
    x.dust(0, 0);
    Due.is("flat(), but not as yet", x.flat(), 4);
    x.dust(-1, 0);
    x.dust(1, 0);
    Due.is("flat(), not fallen by the first BEAT", x.flat(), 3);
    // They are TIRED 40 ahead of the 40. BEAT: 36 by 40.
    x.dust(40, 1);
    Due.is("flat(), fallen by the 40.", x.flat(), 3);
    x.dust(39, 0);
    Due.is("flat(), but not by the 39.", x.flat(), 3);
    Due.sentence(27, "`int flat()`: FLAT (bits).");
    x.dust(22, 0);
    Due.is("flat(), nor by the 22.", x.flat(), 3);
    x.dust(38, 1);
    Due.is("flat(), one of them is not so", x.flat(), 0);
    x.dust(-1, 0);
    Due.is("flat(), none of them", x.flat(), 7);
  }

  private static void order() {
    Due.sentence(28, "ORDER: those that hang, the lightest first (of several the lesser number): the k-th; LIGHT: how many of them would "
        + "be LOOSE now, were they borne in this order.");
    ChoirRoof x = Due.stones(WholeSingers.five(), 30, 45, 8, 30, 12);
    int[] order = {2, 4, 0, 3, 1, -5};
    for (int k = 0; k <= 5; k++) Due.is("order(" + k + ")", x.order(k), order[k]);
    // 8, 20, 50, 80 by 90, but 125; by their numbers 30, 75, 83, but 113.
    Due.is("order(-1)", x.order(-1), 1);
    Due.is("told(4)", x.told(4), 8 + 16);
    x.sing(3, -1);
    Due.is("order(-1), by 68", x.order(-1), 2);
    x.prop(0, true);
    Due.is("order(-1), by 68, one PROPPED", x.order(-1), 1);
    int[] rest = {2, 4, 3, 1, -5, -5};
    for (int k = 0; k <= 5; k++) Due.is("order(" + k + "), one PROPPED", x.order(k), rest[k]);
    x.beat();
    // 45 and 8 are borne by 68, 30 and 12 have fallen.
    int[] left = {2, 1, -5, -5, -5, -5};
    for (int k = 0; k <= 5; k++) Due.is("order(" + k + "), behind a BEAT", x.order(k), left[k]);
    Due.is("order(-1), behind a BEAT", x.order(-1), 0);
    Due.is("order(8)", x.order(8), -1);
  }

  private static void odds() {
    Due.sentence(29, "ODDS: if one of SINGERS, each alike likely, rests now: how likely nothing is LOOSE: a fraction in lowest terms (NO: there are none).");
    // Without each of them: 43, 30, 45, 68, and 90 without the one who rests.
    int[][] due = {{60, 30, 1, 5}, {60, 8, 2, 5}, {45, 0, 3, 5}, {43, 0, 4, 5}, {30, 0, 1, 1}, {60, 31, 0, 1}};
    for (int[] d : due) {
      ChoirRoof x = Due.stones(WholeSingers.five(), d[0]);
      if (d[1] > 0) x.stone(d[1]);
      Due.is("odds(0), by " + (d[0] + d[1]), x.odds(0), d[2]);
      Due.is("odds(1), by " + (d[0] + d[1]), x.odds(1), d[3]);
    }
    ChoirRoof y = Due.stones(WholeSingers.five(), 45);
    y.singer(0, 0, 0);
    Due.is("odds(0), four of six", y.odds(0), 2);
    Due.is("odds(1), four of six", y.odds(1), 3);
    Due.is("odds(3)", y.odds(3), NO);
  }

  private static void mean() {
    Due.sentence(30, "MEAN of n (1 .. 40): ALL ahead of each of n BEATS, together, by n: a fraction in lowest terms.");
    ChoirRoof x = Due.choir(0, 4, 7);
    Due.read(x, "weary 10");
    int[][] due = {{1, 60, 1}, {2, 57, 1}, {3, 54, 1}, {4, 51, 1}, {9, 36, 1}, {12, 57, 2}, {15, 24, 1}, {40, 51, 4}};
    // 60, 54 .. 6, then 6 for good: 330 by the tenth, 342 by the twelfth, 360 by the fifteenth, 510 by the fortieth.
    for (int[] d : due) {
      Due.is("mean(" + d[0] + ", 0)", x.mean(d[0], 0), d[1]);
      Due.is("mean(" + d[0] + ", 1)", x.mean(d[0], 1), d[2]);
    }
    Due.is("mean(50, 0)", x.mean(50, 0), NO);
  }

  private static void wage() {
    Due.sentence(31, "WAGE of one: over all sets of others who sing now: ALL, if just these and it sing, less ALL, if just these do; these, "
        + "together, by how many sets there are: a fraction in lowest terms (may be below 0; 0, if it rests now).");
    ChoirRoof x = WholeSingers.five();
    // Without others 6, with 0: 6, with 1: 17, with 2: 6, with 0 and 1: 22, with 0 and 2: 6, with 1 and 2: 22, with all 22.
    Due.is("wage(3, 0)", x.wage(3, 0), 107);
    Due.is("wage(3, 1)", x.wage(3, 1), 8);
    x.sing(2, -1);
    // Without others 6, with 0: 6, with 1: 17, with both 22.
    Due.is("wage(3, 0), the third rests", x.wage(3, 0), 51);
    Due.is("wage(3, 1), the third rests", x.wage(3, 1), 4);
    x.sing(1, -1);
    Due.is("wage(3, 0), and the second", x.wage(3, 0), 6);
    Due.is("wage(3, 1), and the second", x.wage(3, 1), 1);
    Due.is("wage(2, 0), it rests", x.wage(2, 0), 0);
    Due.is("wage(2, 1), it rests", x.wage(2, 1), 1);
    Due.is("wage(5, 0)", x.wage(5, 0), NO);
  }

  private static void plan() {
    Due.sentence(32, "PLAN told by hand: rows of one and a NOTE (or -1), each set ahead of a BEAT that goes then; 8 at most (what it can "
        + "not sing: it rests). PLANNED: STONES FALLEN behind it; ALL then.");
    ChoirRoof x = Due.stones(Due.choir(0, 4, -1), 4, 15);
    int[][] rows = {{2, 7}, {1, -1}, {0, 1}, {0, 3}, {2, 23}, {1, 11}};
    int[] fallen = {0, 0, 0, 1, 1, 1, 1};
    int[] all = {20, 60, 20, 10, 20, 5, 20};
    Due.is("planned(0), no row", x.planned(0), fallen[0]);
    Due.is("planned(1), no row", x.planned(1), all[0]);
    for (int r = 0; r < rows.length; r++) {
      Due.is("plan(" + rows[r][0] + ", " + rows[r][1] + ")", x.plan(rows[r][0], rows[r][1]), r + 1);
      Due.is("planned(0), " + (r + 1) + " rows", x.planned(0), fallen[r + 1]);
      Due.is("planned(1), " + (r + 1) + " rows", x.planned(1), all[r + 1]);
    }
    Due.sentence(32, "A row comes to the PLAN: how many there are (singer -1: none then, 0, whatever the other is). NONE; BAD: note (-1 .. 23); FULL: 8.");
    Due.is("plan(3, 5)", x.plan(3, 5), -1);
    Due.is("plan(2, 30)", x.plan(2, 30), -2);
    Due.is("plan(1, 5)", x.plan(1, 5), 7);
    Due.is("plan(1, 5)", x.plan(1, 5), 8);
    Due.is("plan(1, 5), a 9.", x.plan(1, 5), -4);
    Due.is("plan(-1, 5)", x.plan(-1, 5), 0);
    Due.is("planned(1), no row", x.planned(1), 20);
  }

  private static void book() {
    Due.sentence(34, "BOOK told by hand: SINGERS and what they bear now; 8 at most. LOOKED at: the first that is not so (-5: none).");
    ChoirRoof x = WholeSingers.five();
    int[] bears = {26, 30, 22, 12, 0};
    for (int i = 0; i < 5; i++) {
      Due.is("book(" + i + ", " + bears[i] + ")", x.book(i, bears[i]), i + 1);
      Due.is("looked(), " + (i + 1) + " rows", x.looked(), -5);
    }
    Due.is("book(1, 31)", x.book(1, 31), 6);
    Due.is("looked(), the sixth", x.looked(), 5);
    Due.is("book(2, 23)", x.book(2, 23), 7);
    Due.is("looked(), the sixth still", x.looked(), 5);
    x.sing(3, -1);
    Due.is("looked(), the second: 20 now", x.looked(), 1);
    x.sing(3, 2);
    Due.is("looked(), the second, 2 is out of tune with 4", x.looked(), 1);
    Due.sentence(35, "`int looked()`: LOOKED at; -5.");
    x.sing(3, 1);
    Due.is("looked(), the sixth again", x.looked(), 5);
    Due.is("book(-1, 7)", x.book(-1, 7), 0);
    Due.is("looked(), no row", x.looked(), -5);
  }
}
