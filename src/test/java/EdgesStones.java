/** The edges of promises 23 to 28, sentence by sentence. */
final class EdgesStones {
  private static final int MIN = Integer.MIN_VALUE, MAX = Integer.MAX_VALUE;

  private EdgesStones() {
  }

  static void run() {
    props();
    critical();
    load();
    dust();
    flat();
    flatDust();
    order();
    light();
  }

  private static void props() {
    Due.sentence(23, "PROPS of n (0 .. 3)");
    ChoirRoof x = Due.stones(new ChoirRoof(), 1, 60, 9);
    for (int n : new int[] {-1, 4, MIN, MAX}) Due.is("props(" + n + ")", x.props(n), -2);
    Due.is("props(0), nothing LOOSE", new ChoirRoof().props(0), 0);
    Due.is("props(3)", x.props(3), 3);
    Due.sentence(23, "so that nothing is LOOSE now (-5: more than n).");
    for (int n = 0; n < 3; n++) Due.is("props(" + n + "), three", x.props(n), -5);
    x.stone(1);
    Due.is("props(3), four", x.props(3), -5);
    x.prop(1, true);
    Due.is("props(3), one is PROPPED already", x.props(3), 3);
    Due.sentence(23, "the fewest of STONES that must be PROPPED");
    Due.is("props(3), 60 by 60", Due.stones(Due.choir(0, 0, 0), 20, 30, 10).props(3), 0);
    Due.is("props(3), 61 by 60", Due.stones(Due.choir(0, 0, 0), 20, 30, 11).props(3), 1);
    Due.is("props(3), 30 less is 60", Due.stones(Due.choir(0, 0, 0), 30, 30, 30).props(3), 1);
    Due.is("props(3), 30 less is 61", Due.stones(Due.choir(0, 0, 0), 30, 30, 30, 1).props(3), 2);
    Due.is("props(3), the heaviest, not the first or the last", Due.stones(Due.choir(0, 0), 9, 12, 9).props(3), 1);
    Due.is("props(3), the heaviest, not those that are LOOSE", Due.stones(Due.choir(0, 0), 20, 5, 5, 5).props(3), 1);
    ChoirRoof y = Due.stones(new ChoirRoof(), 60, 60);
    y.beat();
    Due.is("props(0), all have fallen", y.props(0), 0);
  }

  private static void critical() {
    Due.sentence(24, "neither of whom alone makes any STONE more LOOSE by resting, but both together do");
    Due.is("critical(0), 60 by 60, by 20", Due.stones(Due.choir(0, 0, 0, 0), 60).critical(0), 6);
    Due.is("critical(0), 21 by 60, by 20", Due.stones(Due.choir(0, 0, 0, 0), 21).critical(0), 6);
    Due.is("critical(0), 20 by 60, by 20", Due.stones(Due.choir(0, 0, 0, 0), 20).critical(0), 0);
    Due.is("critical(0), 61 by 60: each alone does", Due.stones(Due.choir(0, 0, 0, 0), 60, 1).critical(0), 0);
    Due.is("critical(0), one is LOOSE as it is", Due.stones(Due.choir(0, 0, 0, 0), 60, 60, 1).critical(0), 0);
    Due.is("critical(0), one is LOOSE by 60 and by 20, two by 5", Due.stones(Due.choir(0, 0, 0), 6, 60).critical(0), 3);
    Due.is("critical(0), all are LOOSE as it is", Due.stones(Due.choir(0, 0, 0), 60, 60).critical(0), 0);
    Due.is("critical(0), no stones", Due.choir(0, 0).critical(0), 0);
    Due.is("critical(0), all six", Due.stones(Due.choir(0, 0, 0, 0, 0, 0), 60, 60, 60).critical(0), 15);
    Due.is("critical(0), one can rest and three can not", Due.stones(Due.choir(0, 4, 7, 1), 40, 20).critical(0), 0);
    ChoirRoof x = Due.choir(0, 0, 0, 11);
    Due.stones(x, 6);
    Due.is("critical(0): three in tune and one alone", x.critical(0), 0);
    x.stone(14);
    Due.is("critical(0): 20 by 10, but not by 20", x.critical(0), 3);
    x.stone(1);
    Due.is("critical(0): 21 by 10 and by 20", x.critical(0), 6);
    Due.sentence(24, "(10 times the lesser and the greater number)");
    Due.is("critical(1), 0 and 1", Due.stones(Due.choir(0, 0, -1, -1, -1, -1), 5).critical(1), 1);
    Due.is("critical(1), 0 and 5", Due.stones(Due.choir(0, -1, -1, -1, -1, 0), 5).critical(1), 5);
    Due.is("critical(1), 4 and 5", Due.stones(Due.choir(-1, -1, -1, -1, 0, 0), 5).critical(1), 45);
    Due.is("critical(0), 4 and 5", Due.stones(Due.choir(-1, -1, -1, -1, 0, 0), 5).critical(0), 1);
    Due.is("critical(1), the first of six", Due.stones(Due.choir(-1, 0, 0, 0, 0), 60).critical(1), 12);
    Due.sentence(24, "how many there are; the first (-5: none).");
    Due.is("critical(1), none", Due.stones(Due.choir(0, 0), 6).critical(1), -5);
    Due.is("critical(0), none", Due.stones(Due.choir(0), 5).critical(0), 0);
    Due.is("critical(1), one alone", Due.stones(Due.choir(0), 5).critical(1), -5);
    Due.is("critical(1), nobody", new ChoirRoof().critical(1), -5);
    Due.sentence(24, "CRITICAL: what 0 how many, 1 the first; -5. NONE.");
    for (int what : new int[] {-1, 2, MIN, MAX}) Due.is("critical(" + what + ")", Due.choir(0, 0).critical(what), -1);
  }

  private static void load() {
    Due.sentence(25, "less ALL (may be below 0).");
    Due.is("load(), nothing at all", new ChoirRoof().load(), 0);
    Due.is("load(), no stones", Due.choir(0).load(), -5);
    Due.is("load(), 5 by 5", Due.stones(Due.choir(0), 5).load(), 0);
    Due.is("load(), nobody", Due.stones(new ChoirRoof(), 60, 60, 60, 60, 60, 60).load(), 360);
    Due.sentence(25, "WEIGHTS of all that hang (not PROPPED, not FALLEN), together");
    ChoirRoof x = Due.stones(Due.choir(0), 4, 7, 2);
    Due.is("load()", x.load(), 8);
    x.prop(1, true);
    Due.is("load(), one PROPPED", x.load(), 1);
    x.beat();
    Due.is("load(), one FALLEN", x.load(), -1);
  }

  private static void dust() {
    Due.sentence(26, "a BEAT from now (0 .. 40) and how many STONES are FALLEN behind so many BEATS; 6 at most.");
    ChoirRoof x = new ChoirRoof();
    for (int beats : new int[] {-2, 41, MIN, MAX}) Due.is("dust(" + beats + ", 0)", x.dust(beats, 0), -2);
    Due.is("count(3)", x.count(3), 0);
    Due.is("dust(0, 0)", x.dust(0, 0), 1);
    Due.is("dust(40, 6)", x.dust(40, 6), 2);
    for (int i = 3; i <= 6; i++) Due.is("dust(1, 1)", x.dust(1, 1), i);
    Due.is("dust(1, 1), a 7.", x.dust(1, 1), -4);
    Due.is("count(3)", x.count(3), 6);
    Due.sentence(26, "BAD: beats, fallen (0 .. 6); FULL: 6.");
    ChoirRoof y = new ChoirRoof();
    for (int fallen : new int[] {-1, 7, MIN, MAX}) Due.is("dust(0, " + fallen + ")", y.dust(0, fallen), -2);
    for (int fallen = 0; fallen <= 5; fallen++) Due.is("dust(0, " + fallen + ")", y.dust(0, fallen), fallen + 1);
    Due.sentence(26, "how many there are (beats -1: none then, 0, whatever the other is).");
    for (int fallen : new int[] {0, 6, 7, -1, MIN, MAX}) {
      ChoirRoof z = Due.stones(Due.choir(0), 6);
      for (int i = 0; i < 6; i++) z.dust(i, 6);
      Due.is("flat(), dust that is not so", z.flat(), 0);
      Due.is("dust(-1, " + fallen + "), full", z.dust(-1, fallen), 0);
      Due.is("count(3)", z.count(3), 0);
      Due.is("flat(), no dust", z.flat(), 1);
      Due.is("dust(-1, " + fallen + "), empty", z.dust(-1, fallen), 0);
      Due.is("dust(0, 0)", z.dust(0, 0), 1);
    }
  }

  private static void flat() {
    Due.sentence(27, "FLAT: those who sing, as bits");
    Due.is("flat(), no dust", Due.choir(0, -1, 5, -1, -1, 7).flat(), 37);
    Due.is("flat(), all rest", Due.choir(-1, -1).flat(), 0);
    Due.is("flat(), nobody", new ChoirRoof().flat(), 0);
    Due.sentence(27, "did it sing one NOTE lower from now on (0 at least)");
    ChoirRoof x = Due.stones(Due.choir(0, 0), 20);
    x.dust(1, 0);
    Due.is("flat(): a 0 stays", x.flat(), 3);
    ChoirRoof y = Due.stones(Due.choir(1, 1), 20);
    y.dust(1, 1);
    Due.is("flat(): a 1 becomes 0", y.flat(), 3);
    ChoirRoof z = new ChoirRoof();
    z.singer(0, 0, 0);
    z.singer(0, 0, 5);
    z.sing(0, 0);
    z.sing(1, 5);
    z.stone(20);
    z.dust(1, 0);
    Due.is("flat(): one lower than its RANGE, 4 and 0", z.flat(), 3);
    ChoirRoof v = new ChoirRoof();
    v.singer(0, 0, 0);
    v.singer(0, 0, 3);
    v.sing(0, 0);
    v.sing(1, 3);
    v.stone(20);
    v.dust(1, 1);
    Due.is("flat(): one lower than its RANGE, 2 and 0", v.flat(), 2);
    Due.is("flat(): 0 and 4, 0 and 3", flatOf(0, 4, 0), 3);
    Due.is("flat(): 0 and 3 but not 0 and 2", flatOf(0, 3, 0), 1);
    Due.is("flat(): 0 and 2, told that it fell", flatOf(0, 3, 1), 2);
    Due.is("flat(): 5 and 9 but not 4 and 10", flatOf(5, 10, 0), 2);
    Due.is("flat(): 4 and 10, told that it fell", flatOf(5, 10, 1), 1);
    ChoirRoof w = Due.stones(Due.choir(0, 4), 20);
    Due.read(w, "draught 9 n=3&b=1");
    w.dust(2, 1);
    Due.is("flat(): from now on, not for one BEAT", w.flat(), 2);
  }

  /** Two plain ones, 20 by 20 in tune: who fits dust that so many have fallen behind a BEAT? */
  private static int flatOf(int first, int second, int fallen) {
    ChoirRoof x = Due.stones(Due.choir(first, second), 20);
    x.dust(1, fallen);
    return x.flat();
  }

  private static void flatDust() {
    Due.sentence(27, "all of DUST is so.");
    ChoirRoof x = Due.stones(Due.choir(0, 4, 7), 42);
    for (int i = 0; i < 3; i++) x.tire(i, 1);
    x.dust(39, 0);
    Due.is("flat(), 39", x.flat(), 3);
    x.dust(40, 1);
    Due.is("flat(), 39 and 40", x.flat(), 3);
    x.dust(40, 0);
    Due.is("flat(), both can not be so", x.flat(), 0);
    ChoirRoof y = Due.stones(new ChoirRoof(), 1);
    y.singer(0, 0, 0);
    y.sing(0, 3);
    y.dust(0, 1);
    Due.is("flat(): 0 is now", y.flat(), 0);
    y.dust(-1, 0);
    y.dust(0, 0);
    Due.is("flat(): 0 is now, none as yet", y.flat(), 1);
    ChoirRoof z = Due.stones(Due.choir(0), 60, 5);
    z.beat();
    z.dust(0, 2);
    Due.is("flat(): those fallen before", z.flat(), 1);
    ChoirRoof w = Due.stones(Due.choir(0), 60, 60, 60, 60, 60, 60);
    w.dust(1, 6);
    w.dust(0, 0);
    for (int i = 0; i < 3; i++) w.dust(40, 6);
    Due.is("flat(), five that are so", w.flat(), 1);
    w.dust(2, 5);
    Due.is("flat(): the sixth is looked at, too", w.flat(), 0);
  }

  private static void order() {
    Due.sentence(28, "those that hang, the lightest first (of several the lesser number)");
    ChoirRoof x = Due.stones(new ChoirRoof(), 9, 7, 9, 60, 7, 1);
    int[] order = {5, 1, 4, 0, 2, 3};
    for (int k = 0; k < 6; k++) Due.is("order(" + k + ")", x.order(k), order[k]);
    x.prop(1, true);
    x.prop(3, true);
    int[] rest = {5, 4, 0, 2, -5, -5};
    for (int k = 0; k < 6; k++) Due.is("order(" + k + "), two PROPPED", x.order(k), rest[k]);
    Due.is("order(0), all alike", Due.stones(new ChoirRoof(), 3, 3, 3).order(0), 0);
    Due.is("order(2), all alike", Due.stones(new ChoirRoof(), 3, 3, 3).order(2), 2);
    Due.sentence(28, "ORDER (k -1: LIGHT); -5: there are fewer. NONE: k (-1 .. 5).");
    for (int k : new int[] {-2, 6, MIN, MAX}) Due.is("order(" + k + ")", x.order(k), -1);
    for (int k = 0; k <= 5; k++) Due.is("order(" + k + "), no stones", new ChoirRoof().order(k), -5);
    Due.is("order(-1), no stones", new ChoirRoof().order(-1), 0);
    x.beat();
    Due.is("order(0), the others FALLEN", x.order(0), -5);
    x.prop(3, false);
    Due.is("order(0), one hangs again", x.order(0), 3);
    Due.is("order(1), one hangs again", x.order(1), -5);
  }

  private static void light() {
    Due.sentence(28, "LIGHT: how many of them would be LOOSE now, were they borne in this order.");
    Due.is("order(-1), 5 by 5", Due.stones(Due.choir(0), 3, 2).order(-1), 0);
    Due.is("order(-1), 6 by 5", Due.stones(Due.choir(0), 4, 2).order(-1), 1);
    Due.is("order(-1), the heavy one is the last", Due.stones(Due.choir(0), 60, 1, 1, 1, 1, 1).order(-1), 1);
    Due.is("order(-1), nobody", Due.stones(new ChoirRoof(), 60, 1, 1, 1, 1, 1).order(-1), 6);
    Due.is("order(-1), 3 and 3 and 3 by 5", Due.stones(Due.choir(0), 3, 3, 3).order(-1), 2);
    ChoirRoof x = Due.stones(Due.choir(0), 60, 5);
    x.prop(0, true);
    Due.is("order(-1), one PROPPED", x.order(-1), 0);
    Due.is("told(4): in their own order", Due.stones(Due.choir(0), 60, 1).told(4), 3);
  }
}
