/** Promises 1 to 3, and what clauses do. */
public final class SettingsTest {
  public static void main(String[] args) {
    newObject();
    feed();
    faults();
    openOnes();
    manyClauses();
    settings();
    clausesHold();
    lastNumbers();
    Due.end();
  }

  /** Promise 1. */
  private static void newObject() {
    ChoirRoof x = new ChoirRoof();
    for (int what = 0; what <= 7; what++) Due.is("count(" + what + ")", x.count(what), 0);
    Due.is("told(0)", x.told(0), 0);
    Due.is("told(1)", x.told(1), 3);
    Due.is("told(2)", x.told(2), 1);
    Due.is("told(3)", x.told(3), 0);
    Due.is("of(0, 0)", x.of(0, 0), -1);
    Due.is("at(0, 0)", x.at(0, 0), -1);
    Due.is("undo()", x.undo(), -3);
    Due.is("NO", ChoirRoof.NO, Long.MIN_VALUE);
  }

  /** Promise 2. */
  private static void feed() {
    ChoirRoof x = new ChoirRoof();
    Due.is("feed(0)", x.feed(0), 1);
    Due.is("feed(127)", x.feed(127), 2);
    Due.is("feed(-1)", x.feed(-1), -2);
    Due.is("feed(128)", x.feed(128), -2);
    for (int i = 3; i <= 100; i++) Due.is("feed(65)", x.feed(65), i);
    Due.is("the 101. feed", x.feed(65), -4);
    Due.is("a bad feed to a full tape", x.feed(128), -2);
    Due.is("count(6)", x.count(6), 100);
  }

  private static void fault(String text, int place) {
    ChoirRoof x = new ChoirRoof();
    Due.is("setting() of [" + text + "]", Due.read(x, text), place < 0 ? 0 : -10 - place);
    Due.is("count(6) behind [" + text + "]", x.count(6), 0);
    Due.is("count(2) behind [" + text + "]", x.count(2), place < 0 ? 1 : 0);
  }

  /** Promise 3: the fault is the place of the first sign with which nothing can go on. */
  private static void faults() {
    fault("", 0);
    fault("ease 3", -1);
    fault("weary 0", -1);
    fault("ease 99", -1);
    fault("ease", 4);
    fault("ease ", 5);
    fault("ease x", 5);
    fault("ease  1", 5);
    fault("Ease 1", 0);
    fault(" ease 1", 0);
    fault("eaze 1", 2);
    fault("ease 05", 6);
    fault("ease 123", 7);
    fault("ease 1 s=1", 6);
    fault("ease 1;", 7);
    fault("ease 1; weary 1", 7);
    fault("ease 1;;weary 1", 7);
    fault("ease 1;weary 1", -1);
    fault("weary 1;ease 1;loud 1 s=1;draught 1 s=1", -1);
    fault("loud 5", 6);
    fault("loud 5 ", 7);
    fault("loud 55 s=1", -1);
    fault("loud 5 s", 8);
    fault("loud 5 s=", 9);
    fault("loud 5 s==1", 9);
    fault("loud 5 s=1 ", 10);
    fault("loud 5 s=01", 10);
    fault("loud 5 s=123", 11);
    fault("loud 5 x=1", 7);
    fault("loud 5 s=1&", 11);
    fault("loud 5 s=1|", 11);
    fault("loud 5 s=1||s=1", 11);
    fault("loud 5 s=1|&s=1", 11);
    fault("loud 5 s=1)", 10);
    fault("loud 5 (s=1", 11);
    fault("loud 5 (s=1;ease 1", 11);
    fault("loud 5 ()", 8);
    fault("loud 5 !", 8);
    fault("loud 5 s=1!", 10);
    fault("loud 5 s=1&k<2|v>3&n<4|t=5&b=6", -1);
    fault("draught 7 !(s=1|k=2)&!n<3", -1);
  }

  /** Promise 3: at most 5 of ! and ( are open, each till its end. */
  private static void openOnes() {
    fault("loud 5 !!!!!s=1", -1);
    fault("loud 5 !!!!!!s=1", 12);
    fault("loud 5 (((((s=1)))))", -1);
    fault("loud 5 ((((((s=1))))))", 12);
    fault("loud 5 !(!(!s=1))", -1);
    fault("loud 5 !(!(!(s=1)))", 12);
    fault("loud 5 (((((s=1|!s=1)))))", 16);
    fault("loud 5 (((((s=1))))|!s=1)", -1);
    fault("loud 5 !s=1&!s=1&!s=1&!s=1&!s=1&!s=1|!s=1", -1);
    fault("loud 5 (s=1)&(s=1)&(s=1)&(s=1)&(s=1)&(s=1)", -1);
  }

  /** Promise 3: ten clauses, no more. */
  private static void manyClauses() {
    StringBuilder text = new StringBuilder("ease 1");
    for (int c = 2; c <= 10; c++) text.append(";ease 1");
    fault(text.toString(), -1);
    fault(text + ";", 69);
    fault(text + ";ease 1", 69);
    StringBuilder full = new StringBuilder("loud 1 s=0");
    while (full.length() < 98) full.append("|s=0");
    fault(full + "|s", 100);
    fault(full.toString(), -1);
  }

  /** Promise 3: numbers, which one holds, five at most. */
  private static void settings() {
    ChoirRoof x = new ChoirRoof();
    Due.is("1. setting", Due.read(x, "ease 7"), 0);
    Due.is("told(1)", x.told(1), 7);
    Due.is("a fault", Due.read(x, "ease 8;wear"), -21);
    Due.is("told(1) behind a fault", x.told(1), 7);
    Due.is("2. setting", Due.read(x, "weary 4"), 1);
    Due.is("told(1) without ease", x.told(1), 3);
    Due.is("told(2)", x.told(2), 4);
    for (int i = 2; i < 5; i++) Due.is("a setting more", Due.read(x, "ease " + i), i);
    Due.is("a 6. setting", Due.read(x, "ease 9"), -4);
    Due.is("count(6): the tape stays", x.count(6), 6);
    Due.is("told(1): the 5. holds", x.told(1), 4);
    Due.is("a fault when full", Due.read(x, "x"), -4);
    Due.is("count(2)", x.count(2), 5);
    ChoirRoof y = Due.choir(0);
    Due.read(y, "loud 9 s=0;x");
    Due.read(y, "ease 1");
    Due.is("of(0, 5): nothing is left of a faulty one", y.of(0, 5), 10);
    Due.read(y, "loud 5 s=0");
    Due.read(y, "loud 9 s=0;weary 9;x");
    Due.is("of(0, 5): the one that held holds", y.of(0, 5), 15);
    Due.is("told(2): the one that held holds", y.told(2), 1);
    Due.read(y, "ease 1");
    Due.is("of(0, 5): nothing is left of the one before", y.of(0, 5), 10);
  }

  /** The force of singer 1, a STRONG one with v 3 that sings 20, TIRED 42, at BEAT 0, by a clause. */
  private static int force(String clause) {
    ChoirRoof x = new ChoirRoof();
    x.singer(0, 0, 0);
    x.singer(3, 3, 12);
    x.sing(1, 20);
    x.tire(1, 42);
    Due.is("setting() of [" + clause + "]", Due.read(x, clause), 0);
    return x.of(1, 5);
  }

  private static void clausesHold() {
    Due.is("without", force("ease 3"), 9);
    String[] yes = {"s=1", "s<2", "s>0", "k=3", "v=3", "n=20", "n>19", "n<21", "t=4", "b=0", "b<1",
        "!s=0", "!!s=1", "s=1&k=3", "s=0|k=3", "s=1|k=0&v=0", "(s=1|k=0)&v=3", "!(s=1&k=0)", "!s=0&s=1",
        "s=0&k=0|v=3", "!s<0", "s=1|s<0", "!(s=0|k=0)", "!s=1|v=3", "(((n=20)))", "s=0|s=0|s=0|s=1", "s=1&s=1&s=1"};
    String[] no = {"s=0", "s<1", "s>1", "k=4", "v=2", "n=21", "n>20", "n<20", "t=42", "t=5", "b=1", "b>0",
        "!s=1", "!!s=0", "s=1&k=0", "s=0|k=0", "(s=1|k=0)&v=0", "!(s=1&k=3)", "!s=0&s=0", "!(s=1|k=0)",
        "s=0&k=0|v=0", "s<0", "s=1&s<0", "s=0&(k=3|v=3)", "!s=1&v=3", "s=1&s=1&s=0", "s=0&s=1|s=0"};
    for (String e : yes) {
      Due.is("loud by " + e, force("loud 7 " + e), 16);
      Due.is("draught by " + e, force("draught 7 " + e), 2);
    }
    for (String e : no) {
      Due.is("loud by " + e, force("loud 7 " + e), 9);
      Due.is("draught by " + e, force("draught 7 " + e), 9);
    }
    Due.is("all loud and draught", force("loud 7 s=1;loud 5 k=3;draught 2 n=20;loud 99 s=0"), 19);
    Due.is("0 at least", force("draught 99 s=1"), 0);
    Due.is("loud makes good for draught", force("draught 60 s=1;loud 55 s=1"), 4);
    ChoirRoof x = Due.choir(0);
    Due.read(x, "loud 5 b=9;loud 7 b=0;ease 0;weary 0");
    for (int b = 0; b < 21; b++) {
      Due.is("force at beat " + b, x.of(0, 5), b % 10 == 9 ? 15 : b % 10 == 0 ? 17 : 10);
      x.beat();
    }
  }

  private static void lastNumbers() {
    ChoirRoof x = Due.choir(0, -1);
    Due.read(x, "ease 9;weary 50;ease 2;weary 30");
    Due.is("told(1)", x.told(1), 2);
    Due.is("told(2)", x.told(2), 30);
    x.tire(1, 5);
    x.beat();
    Due.is("of(0, 4)", x.of(0, 4), 30);
    Due.is("of(1, 4)", x.of(1, 4), 3);
  }
}
