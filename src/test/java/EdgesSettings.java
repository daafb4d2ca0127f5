import java.util.Set;

/** The edges of promises 1 to 3, sentence by sentence. */
final class EdgesSettings {
  private static final String DIGITS = "0123456789", WORDS = "ewld", FACTORS = "!(skvntb", TESTS = "skvntb";

  private EdgesSettings() {
  }

  static void run() {
    newObject();
    feed();
    setting();
    full();
    clauses();
    numbers();
    open();
    nextSign();
    endsTooEarly();
    easeAndWeary();
    tests();
    bothAndEither();
  }

  private static void newObject() {
    Due.sentence(1, "Nobody, no STONES, no SETTING.");
    ChoirRoof other = Due.stones(Due.choir(0, 4), 1);
    Due.read(other, "ease 9");
    other.image();
    ChoirRoof x = new ChoirRoof();
    for (int what = 0; what <= 7; what++) Due.is("count(" + what + ")", x.count(what), 0);
    Due.is("of(0, 0)", x.of(0, 0), -1);
    Due.is("at(0, 0)", x.at(0, 0), -1);
    Due.is("undo(), no image", x.undo(), -3);
    Due.is("singer(0, 0, 0)", x.singer(0, 0, 0), 0);
    Due.is("stone(1)", x.stone(1), 0);
    Due.is("the first setting's number", Due.read(x, "ease 1"), 0);
    Due.sentence(1, "BEAT: 0 at first.");
    Due.is("told(0)", new ChoirRoof().told(0), 0);
    Due.sentence(1, "without one there are no CLAUSES.");
    ChoirRoof y = Due.choir(0);
    Due.is("told(1)", y.told(1), 3);
    Due.is("told(2)", y.told(2), 1);
    Due.is("of(0, 5): neither loud nor draught", y.of(0, 5), 10);
  }

  private static void feed() {
    Due.sentence(2, "A sign (0 .. 127) comes behind THE TAPE's: how many it has.");
    ChoirRoof x = new ChoirRoof();
    for (int sign = 0; sign < 100; sign++) Due.is("feed(" + sign + ")", x.feed(sign), sign + 1);
    ChoirRoof y = new ChoirRoof();
    for (int sign = 28; sign <= 127; sign++) Due.is("feed(" + sign + ")", y.feed(sign), sign - 27);
    ChoirRoof z = new ChoirRoof();
    Due.is("setting()", Due.read(z, "ease 12"), 0);
    Due.is("told(1): 2 came behind 1", z.told(1), 12);
    Due.sentence(2, "how many it has. BAD; FULL.");
    ChoirRoof w = new ChoirRoof();
    w.feed('e');
    for (int sign : new int[] {-1, 128, 255, 256 + 'a', Integer.MIN_VALUE, Integer.MAX_VALUE}) {
      Due.is("feed(" + sign + ")", w.feed(sign), -2);
      Due.is("count(6): it did not come", w.count(6), 1);
    }
    Due.is("the next feed", w.feed('a'), 2);
    Due.sentence(2, "THE TAPE (bytes, 100 at most)");
    StringBuilder text = new StringBuilder("loud 11 s=10");
    while (text.length() < 96) text.append("|s=9");
    text.append("|s=0");
    ChoirRoof v = Due.choir(0);
    for (int i = 0; i < 100; i++) Due.is("feed, the " + (i + 1) + ".", v.feed(text.charAt(i)), i + 1);
    Due.is("feed, the 101.", v.feed('1'), -4);
    Due.is("feed, the 101. again", v.feed('1'), -4);
    Due.is("count(6)", v.count(6), 100);
    Due.is("setting(): all 100, and not the 101.", v.setting(), 0);
    Due.is("of(0, 5): the last test counts", v.of(0, 5), 21);
    Due.is("feed behind it", v.feed('e'), 1);
  }

  private static void setting() {
    Due.sentence(3, "THE TAPE, which is empty then (by a FAULT, too), is a SETTING, and holds: its number");
    ChoirRoof x = new ChoirRoof();
    Due.is("setting()", Due.read(x, "ease 7"), 0);
    Due.is("told(1): it holds", x.told(1), 7);
    Due.is("count(6)", x.count(6), 0);
    Due.is("setting(), a fault ahead of the end", Due.read(x, "xease 8"), -10);
    Due.is("count(6) by a fault", x.count(6), 0);
    Due.is("feed by a fault", x.feed('e'), 1);
    Due.is("setting(), a fault at the end", x.setting(), -11);
    Due.is("count(6) by a fault at the end", x.count(6), 0);
    Due.is("setting(): nothing is left of both", Due.read(x, "ease 9"), 1);
    StringBuilder lengthy = new StringBuilder("loud 9 s=0");
    while (lengthy.length() < 96) lengthy.append("|s=0");
    ChoirRoof w = Due.choir(0);
    for (int i = 0; i < 4; i++) Due.is("a long fault", Due.read(w, lengthy + "|"), -10 - lengthy.length() - 1);
    Due.is("setting() behind four long faults", Due.read(w, "loud 3 s=1|s=0"), 0);
    Due.is("of(0, 5): nothing is left of them", w.of(0, 5), 13);
    Due.sentence(3, "-10 less the FAULT (the one that held holds)");
    ChoirRoof y = Due.choir(0);
    Due.is("a fault without any", Due.read(y, "ease 8;weary 8;loud 8 s=0;x"), -36);
    Due.is("told(1): still none", y.told(1), 3);
    Due.is("told(2): still none", y.told(2), 1);
    Due.is("of(0, 5): still none", y.of(0, 5), 10);
    Due.is("setting()", Due.read(y, "ease 7;weary 4;loud 5 s=0"), 0);
    Due.is("a fault", Due.read(y, "ease 8;weary 8;loud 8 s=0;x"), -36);
    Due.is("told(1): the one that held", y.told(1), 7);
    Due.is("told(2): the one that held", y.told(2), 4);
    Due.is("of(0, 5): the one that held", y.of(0, 5), 15);
    Due.is("count(2): a fault has no number", y.count(2), 1);
    Due.is("setting(), the next number", Due.read(y, "ease 1"), 1);
    Due.is("of(0, 5): nothing is left of the fault", y.of(0, 5), 10);
    Due.is("a fault of more clauses", Due.read(y, "loud 8 s=0;loud 9 s=0;loud 9 s=0;x"), -43);
    Due.is("setting() of fewer clauses", Due.read(y, "loud 5 s=0"), 2);
    Due.is("of(0, 5): nothing is left of the other clauses", y.of(0, 5), 15);
    Due.sentence(3, "SETTINGS are numbered from 0 on, 5 at most; the newest one holds");
    ChoirRoof z = new ChoirRoof();
    for (int i = 0; i < 5; i++) {
      Due.is("setting(), number " + i, Due.read(z, "ease " + (9 - i)), i);
      Due.is("told(1): the newest", z.told(1), 9 - i);
    }
    Due.is("a 6.", Due.read(z, "ease 1"), -4);
    Due.is("count(2)", z.count(2), 5);
  }

  private static void full() {
    Due.sentence(3, "FULL (ahead of all; THE TAPE stays).");
    ChoirRoof x = new ChoirRoof();
    for (int i = 0; i < 5; i++) Due.read(x, "ease 1" + i);
    Due.is("setting() of nothing", x.setting(), -4);
    Due.is("setting() of a fault", Due.read(x, "x"), -4);
    Due.is("count(6): it stays", x.count(6), 1);
    Due.is("setting() once more", x.setting(), -4);
    Due.is("feed: it comes behind", x.feed('y'), 2);
    Due.is("told(1)", x.told(1), 14);
    ChoirRoof y = new ChoirRoof();
    y.image();
    for (int i = 0; i < 5; i++) Due.read(y, "ease 1" + i);
    Due.is("setting() of a right one", Due.read(y, "ease 20"), -4);
    Due.is("count(6): it stays", y.count(6), 7);
    Due.is("told(1): it does not hold", y.told(1), 14);
    Due.is("count(2)", y.count(2), 5);
  }

  private static void fault(String text, int place) {
    ChoirRoof x = new ChoirRoof();
    Due.is("setting() of [" + text + "]", Due.read(x, text), place < 0 ? 0 : -10 - place);
    Due.is("count(2) behind [" + text + "]", x.count(2), place < 0 ? 1 : 0);
  }

  private static void clauses() {
    Due.sentence(3, "CLAUSES, 10 at most, with ; between");
    fault("", 0);
    fault(";", 0);
    fault(";ease 1", 0);
    fault("ease 1;", 7);
    fault("ease 1;;ease 1", 7);
    fault("ease 1,ease 1", 6);
    String nine = "ease 1;".repeat(9);
    ChoirRoof x = new ChoirRoof();
    Due.is("ten", Due.read(x, nine + "weary 7"), 0);
    Due.is("told(2): the tenth counts", x.told(2), 7);
    ChoirRoof y = Due.choir(0);
    Due.is("ten", Due.read(y, nine + "loud 7 s=0"), 0);
    Due.is("of(0, 5): the tenth counts", y.of(0, 5), 17);
    Due.is("ten with a long one", Due.read(y, "loud 7 s=0;" + nine.substring(7) + "draught 2 s=0"), 1);
    Due.is("of(0, 5): the first and the tenth count", y.of(0, 5), 15);
    fault(nine + "weary 7;", 70);
    fault(nine + "weary 7;ease 1", 70);
    Due.sentence(3, "one blank ahead of each part behind the word");
    fault("ease1", 4);
    fault("ease  1", 5);
    fault("ease\t1", 4);
    fault(" ease 1", 0);
    fault("ease 1 ", 6);
    fault("ease 1 ;ease 1", 6);
    fault("ease 1; ease 1", 7);
    fault("loud5 s=1", 4);
    fault("loud 5s=1", 6);
    fault("loud 5  s=1", 7);
    fault("loud 5 s =1", 8);
    fault("loud 5 s= 1", 9);
    fault("loud 5 s=1 ", 10);
    fault("loud 5 s=1& s=1", 11);
    fault("loud 5 ( s=1)", 8);
    fault("draught  5 s=1", 8);
    fault("draught 5s=1", 9);
    fault("weary  1", 6);
  }

  private static void numbers() {
    Due.sentence(3, "n 1 or 2 digits, no 0 ahead of another");
    for (int n = 0; n <= 99; n++) {
      ChoirRoof x = new ChoirRoof();
      Due.is("setting() of ease, weary " + n, Due.read(x, "ease " + n + ";weary " + n), 0);
      Due.is("told(1) by " + n, x.told(1), n);
      Due.is("told(2) by " + n, x.told(2), n);
    }
    fault("ease 00", 6);
    fault("ease 01", 6);
    fault("ease 09;ease 1", 6);
    fault("ease 100", 7);
    fault("weary 000", 7);
    fault("loud 0 s=0", -1);
    fault("loud 00 s=0", 6);
    fault("loud 99 s=0", -1);
    fault("draught 100 s=0", 10);
    fault("ease ;", 5);
    Due.sentence(3, "one of < = >, a number likewise");
    fault("loud 1 s=0", -1);
    fault("loud 1 s=99", -1);
    fault("loud 1 s=00", 10);
    fault("loud 1 s<05", 10);
    fault("loud 1 s>100", 11);
    fault("loud 1 s=", 9);
    fault("loud 1 s=&s=1", 9);
    fault("loud 1 s1", 8);
    fault("loud 1 s<=1", 9);
    fault("loud 1 s>=1", 9);
  }

  private static void open() {
    Due.sentence(3, "At most 5 of ! and ( are open");
    fault("loud 5 (((((s=1)))))", -1);
    fault("loud 5 ((((((s=1))))))", 12);
    fault("loud 5 !!!!!s=1", -1);
    fault("loud 5 !!!!!!s=1", 12);
    fault("loud 5 !(!(!s=1))", -1);
    fault("loud 5 !(!(!(s=1)))", 12);
    fault("loud 5 (!(!(s=1)))", -1);
    fault("loud 5 (!(!(!s=1)))", 12);
    fault("loud 5 s=1|((((s=1&!s=1))))", -1);
    fault("loud 5 s=1|((((s=1&!!s=1))))", 20);
    fault("draught 5 ((((((s=1))))))", 15);
    Due.sentence(3, "(a ( till its ) , a ! till its F ends)");
    fault("loud 5 (((((s=1))))&(s=1))", -1);
    fault("loud 5 (((((s=1))))&((((s=1)))))", -1);
    fault("loud 5 (((((s=1))))&(((((s=1))))))", 24);
    fault("loud 5 (((((s=1)))))&(((((s=1)))))", -1);
    fault("loud 5 !!!!!s=1&!!!!!s=1", -1);
    fault("loud 5 !!!!!s=1|!!!!!!s=1", 21);
    fault("loud 5 (!!!!s=1&!!!!s=1)", -1);
    fault("loud 5 (!!!!s=1&!!!!!s=1)", 20);
    fault("loud 5 !(((s=1)&!s=1)|((s=1)))&(((((s=1)))))", -1);
    fault("loud 5 !!!!(s=1)&!!!!(s=1)", -1);
    fault("loud 5 !!!!(!s=1)", 12);
    fault("loud 5 (((((s=1|!s=1)))))", 16);
    fault("loud 5 (((((s=1)|!s=1))))", -1);
    fault("loud 5 !!!!!s=1;loud 5 !!!!!s=1", -1);
  }

  /** Behind a beginning that is right: each of these signs can go on, and none of the other signs can. */
  private static void goesOn(String begin, String signs) {
    for (int sign = 0; sign <= 127; sign++) {
      ChoirRoof x = new ChoirRoof();
      long got = Due.read(x, begin + (char) sign);
      boolean can = signs.indexOf(sign) >= 0;
      long size = begin.length() + 1;
      String call = "setting() of [" + begin + "] and sign " + sign;
      if (!can) Due.is(call, got, -10 - begin.length());
      else if (got != 0) Due.is(call, got, -10 - size);
    }
  }

  private static void nextSign() {
    Due.sentence(3, "FAULT: the place of the first byte with which no SETTING can go on");
    for (String word : new String[] {"ease ", "weary ", "loud ", "draught "}) {
      for (int i = 1; i < word.length(); i++) goesOn(word.substring(0, i), word.substring(i, i + 1));
      goesOn(word, DIGITS);
      goesOn("ease 1;" + word, DIGITS);
    }
    goesOn("", WORDS);
    goesOn("ease 1;", WORDS);
    goesOn("ease 0", ";");
    goesOn("weary 1", ";" + DIGITS);
    goesOn("weary 12", ";");
    goesOn("loud 0", " ");
    goesOn("loud 9", " " + DIGITS);
    goesOn("draught 90", " ");
    for (String ahead : new String[] {"", "!", "(", "s=1&", "s=1|", "!!!!", "((((", "!(!(", "(((((s=12)&", "!!!!!s=12&"}) {
      goesOn("loud 1 " + ahead, FACTORS);
    }
    for (String ahead : new String[] {"!!!!!", "(((((", "!(!(!", "(((((s=12&", "(!!!!s=12|!!!!"}) goesOn("loud 1 " + ahead, TESTS);
    for (char letter : TESTS.toCharArray()) goesOn("loud 1 " + letter, "<=>");
    for (String sign : new String[] {"<", "=", ">"}) goesOn("loud 1 s" + sign, DIGITS);
    goesOn("loud 1 s=0", ";&|");
    goesOn("loud 1 s=1", ";&|" + DIGITS);
    goesOn("loud 1 s=12", ";&|");
    goesOn("loud 1 !s=12", ";&|");
    goesOn("loud 1 (s=12", ")&|");
    goesOn("loud 1 !(s=0", ")&|");
    goesOn("loud 1 (s=1", ")&|" + DIGITS);
    goesOn("loud 1 (!s=12", ")&|");
    goesOn("loud 1 (s=12)", ";&|");
    goesOn("loud 1 ((s=12)", ")&|");
    goesOn("loud 1 (s=12|s=12", ")&|");
    String nine = "ease 1;".repeat(9);
    goesOn(nine + "ease 0", "");
    goesOn(nine + "ease 1", DIGITS);
    goesOn(nine.substring(7) + "ease 12", ";");
    goesOn(nine + "loud 1 s=12", "&|");
  }

  private static void endsTooEarly() {
    Due.sentence(3, "(the size, if it ends too early)");
    String text = "draught 10 !(s<1|k=22)&v>3;weary 0;ease 99;loud 7 ((b=0))";
    Set<String> whole = Set.of("draught 10 !(s<1|k=22)", "draught 10 !(s<1|k=22)&v>3",
        "draught 10 !(s<1|k=22)&v>3;weary 0", "draught 10 !(s<1|k=22)&v>3;weary 0;ease 9",
        "draught 10 !(s<1|k=22)&v>3;weary 0;ease 99", text);
    for (int size = 0; size <= text.length(); size++) {
      String begin = text.substring(0, size);
      fault(begin, whole.contains(begin) ? -1 : size);
    }
    StringBuilder full = new StringBuilder("loud 1 s=0");
    while (full.length() < 98) full.append("|s=0");
    fault(full + "|s", 100);
    fault(full + "0 ", 98);
  }

  private static void easeAndWeary() {
    Due.sentence(3, "EASE (3 without: how much less TIRED a rest makes one)");
    ChoirRoof x = Due.choir(-1);
    Due.read(x, "ease 9;weary 9");
    Due.read(x, "weary 5");
    Due.is("told(1) of a setting without, behind one with", x.told(1), 3);
    x.tire(0, 50);
    x.beat();
    Due.is("of(0, 4), 3 less", x.of(0, 4), 47);
    Due.read(x, "ease 0");
    Due.is("told(1): a 0 is a number", x.told(1), 0);
    x.beat();
    Due.is("of(0, 4), 0 less", x.of(0, 4), 47);
    Due.sentence(3, "WEARY (1 without: how much more TIRED a beat of singing makes one)");
    ChoirRoof y = Due.choir(0);
    Due.read(y, "ease 9;weary 9");
    Due.read(y, "ease 5");
    Due.is("told(2) of a setting without, behind one with", y.told(2), 1);
    y.beat();
    Due.is("of(0, 4), 1 more", y.of(0, 4), 1);
    Due.read(y, "weary 0");
    Due.is("told(2): a 0 is a number", y.told(2), 0);
    y.beat();
    Due.is("of(0, 4), 0 more", y.of(0, 4), 1);
    Due.sentence(3, "the last n.");
    ChoirRoof z = new ChoirRoof();
    Due.read(z, "ease 9;weary 50;ease 2;loud 1 s=0;weary 30;ease 4");
    Due.is("told(1)", z.told(1), 4);
    Due.is("told(2)", z.told(2), 30);
  }

  /** Whether a test holds of singer 1: a STRONG one, v 3, that sings 20, TIRED 42, at BEAT 13. */
  private static void holds(String test, boolean is) {
    ChoirRoof x = new ChoirRoof();
    x.singer(0, 0, 0);
    x.singer(3, 3, 12);
    Due.read(x, "weary 0;loud 7 " + test);
    for (int b = 0; b < 13; b++) x.beat();
    x.sing(1, 20);
    x.tire(1, 42);
    Due.is("of(1, 5) by loud 7 " + test, x.of(1, 5), is ? 16 : 9);
  }

  private static void tests() {
    Due.sentence(3, "of one of SINGERS s its number, k its KIND, v its v, n its NOTE");
    String[][] letters = {{"s", "0", "1", "2"}, {"k", "2", "3", "4"}, {"v", "2", "3", "4"}, {"n", "19", "20", "21"}};
    for (String[] l : letters) around(l);
    Due.sentence(3, "t TIRED by 10 (cut)");
    around("t", "3", "4", "5");
    holds("t=42", false);
    for (int tired : new int[] {0, 9, 10, 19, 90, 99}) {
      ChoirRoof x = Due.choir(0);
      x.tire(0, tired);
      Due.read(x, "loud 30 t=" + tired / 10);
      Due.is("of(0, 5), TIRED " + tired, x.of(0, 5), 40 - tired / 10);
    }
    Due.sentence(3, "b BEAT modulo 10");
    around("b", "2", "3", "4");
    holds("b=13", false);
    ChoirRoof y = Due.choir(0);
    Due.read(y, "weary 0;loud 5 b=9;loud 7 b=0");
    for (int b = 0; b < 21; b++) {
      Due.is("of(0, 5) at BEAT " + b, y.of(0, 5), b % 10 == 9 ? 15 : b % 10 == 0 ? 17 : 10);
      y.beat();
    }
  }

  /** A letter, and the numbers below, at and above what it is. */
  private static void around(String... l) {
    for (int i = 1; i <= 3; i++) {
      holds(l[0] + "<" + l[i], i == 3);
      holds(l[0] + "=" + l[i], i == 2);
      holds(l[0] + ">" + l[i], i == 1);
    }
  }

  private static void bothAndEither() {
    Due.sentence(3, "E: T, or T|E. T: F, or F&T. F: !F, (E), or a TEST");
    holds("s=1|s=1&s=0", true);
    holds("(s=1|s=1)&s=0", false);
    holds("s=0&s=1|s=1", true);
    holds("s=0&(s=1|s=1)", false);
    holds("!s=1&s=0", false);
    holds("!(s=1&s=0)", true);
    holds("!s=1|s=1", true);
    holds("!(s=1|s=1)", false);
    holds("!s=0", true);
    holds("!!s=0", false);
    holds("!!!!!s=0", true);
    holds("(((((s=1)))))", true);
    holds("s=0|s=0|s=1", true);
    holds("s=1&s=1&s=0", false);
    holds("s=0|s=1&s=1|s=0", true);
    holds("s=1&!s<0", true);
    holds("s=1&!s<0&!s<0&s=1", true);
    holds("s<0|s=1", true);
    holds("s=1&s<0", false);
    holds("(s=0|(s=1&(!s=0|s=0)))&!(s=0&s=1)", true);
    holds("(s=1&(s=0|(s=1&(s=0|s=0))))|s=0", false);
    Due.sentence(3, "STRENGTH, the n of all loud whose E holds, less those of all draught");
    ChoirRoof x = Due.choir(0);
    Due.is("setting() of four that hold", Due.read(x, "loud 99 s=0;loud 99 k=0;draught 3 n=0;draught 4 b=0;loud 50 s=1;draught 50 s=1"), 0);
    Due.is("of(0, 5): all that hold", x.of(0, 5), 10 + 99 + 99 - 3 - 4);
  }
}
