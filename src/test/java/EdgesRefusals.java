import java.util.function.Supplier;
import java.util.function.ToLongFunction;

/** The edges of section 3: of several refusals the first one told, and that they change nothing; nor do questions. */
final class EdgesRefusals {
  private static final long NO = Long.MIN_VALUE;

  private EdgesRefusals() {
  }

  static void run() {
    constants();
    refusedSettings();
    refusedSingers();
    refusedStones();
    refusedQuestions();
    refusedSheets();
    refusedOdds();
    refusedActs();
    lastBeat();
    questions();
    dearQuestions();
    questionsOfStones();
  }

  /** Some of each thing, an image of an earlier state, a trace, and a right setting on the tape. */
  private static ChoirRoof some() {
    ChoirRoof x = new ChoirRoof();
    int[] kinds = {6, 4, 2, 5};
    for (int i = 0; i < 4; i++) x.singer(kinds[i], i + 2, 2 * i);
    for (int k = 0; k < 4; k++) x.row(0, k, k + 1);
    Due.read(x, "weary 7;loud 3 n>5|t>0");
    x.dust(9, 1);
    x.plan(1, 5);
    x.book(2, 7);
    x.feed('w');
    x.image();
    for (char sign : "eary 8".toCharArray()) x.feed(sign);
    x.sing(0, 4);
    x.sing(1, 7);
    x.sing(2, 11);
    x.tire(1, 25);
    x.tire(3, 44);
    Due.stones(x, 60, 60, 60, 45);
    x.prop(0, true);
    x.prop(3, true);
    x.beat();
    x.prop(3, false);
    x.dust(3, 1);
    x.dust(-1, 0);
    x.dust(0, 1);
    x.plan(0, 9);
    x.book(0, 15);
    x.act(1, 2, 5);
    return x;
  }

  /** All that has a limit is full but the tape, on which a right setting stands. */
  private static ChoirRoof full() {
    ChoirRoof x = new ChoirRoof();
    for (int i = 0; i < 6; i++) x.singer(i, 3, i);
    x.image();
    for (int i = 0; i < 5; i++) x.sing(i, 7);
    Due.stones(x, 9, 8, 7, 6, 5, 4);
    for (int i = 0; i < 5; i++) Due.read(x, "weary " + i);
    for (int i = 0; i < 6; i++) x.dust(i, 0);
    for (int i = 0; i < 8; i++) {
      x.plan(i % 6, 9);
      x.book(i % 6, 9);
    }
    for (char sign : "weary 8".toCharArray()) x.feed(sign);
    return x;
  }

  /** A tape of 100 signs that is a right setting. */
  private static ChoirRoof fullTape() {
    ChoirRoof x = Due.choir(0, 4);
    x.image();
    StringBuilder text = new StringBuilder("loud 11 s=10");
    while (text.length() < 96) text.append("|s=9");
    for (char sign : text.append("|s=1").toString().toCharArray()) x.feed(sign);
    return x;
  }

  private static void refused(String call, Supplier<ChoirRoof> made, ToLongFunction<ChoirRoof> called, long due) {
    Seen.unchanged(call, made, called, due);
  }

  private static void constants() {
    Due.sentence(1, "public static final int NONE = -1, BAD = -2, STATE = -3, FULL = -4;");
    Due.is("NONE", ChoirRoof.NONE, -1);
    Due.is("BAD", ChoirRoof.BAD, -2);
    Due.is("STATE", ChoirRoof.STATE, -3);
    Due.is("FULL", ChoirRoof.FULL, -4);
    Due.sentence(1, "`NO = Long.MIN_VALUE`: There is no such number.");
    Due.is("NO", ChoirRoof.NO, NO);
  }

  private static void refusedSettings() {
    Due.sentence(2, "REFUSALS, of several the first one told");
    refused("feed(128), full: BAD ahead of FULL", EdgesRefusals::fullTape, x -> x.feed(128), -2);
    refused("feed(-1), full: BAD ahead of FULL", EdgesRefusals::fullTape, x -> x.feed(-1), -2);
    Due.sentence(2, "STATE as told; FULL. They change nothing.");
    refused("feed(65), full", EdgesRefusals::fullTape, x -> x.feed(65), -4);
    refused("feed(128)", EdgesRefusals::some, x -> x.feed(128), -2);
    Due.sentence(3, "They change nothing.");
    refused("setting(), full", EdgesRefusals::full, x -> x.setting(), -4);
    Due.sentence(3, "FULL (ahead of all");
    ChoirRoof y = full();
    y.feed('x');
    Due.is("setting(), full, a fault", y.setting(), -4);
  }

  private static void refusedSingers() {
    Due.sentence(4, "NONE: kind; BAD: v, low; FULL: 6.");
    refused("singer(7, 10, 24), full", EdgesRefusals::full, x -> x.singer(7, 10, 24), -1);
    refused("singer(-1, 0, 0), full", EdgesRefusals::full, x -> x.singer(-1, 0, 0), -1);
    refused("singer(0, 10, 0), full", EdgesRefusals::full, x -> x.singer(0, 10, 0), -2);
    refused("singer(0, 0, 24), full", EdgesRefusals::full, x -> x.singer(0, 0, 24), -2);
    refused("singer(7, 10, 24)", EdgesRefusals::some, x -> x.singer(7, 10, 24), -1);
    Due.sentence(6, "REFUSALS, of several the first one told");
    refused("row(4, 4, 10)", EdgesRefusals::some, x -> x.row(4, 4, 10), -1);
    refused("row(0, 4, 10)", EdgesRefusals::some, x -> x.row(0, 4, 10), -1);
    refused("row(1, 4, 10)", EdgesRefusals::some, x -> x.row(1, 4, 10), -1);
    refused("row(1, 0, 10): BAD ahead of STATE", EdgesRefusals::some, x -> x.row(1, 0, 10), -2);
    refused("row(1, 0, -1): BAD ahead of STATE", EdgesRefusals::some, x -> x.row(1, 0, -1), -2);
    Due.sentence(7, "REFUSALS, of several the first one told");
    refused("sing(4, 24)", EdgesRefusals::some, x -> x.sing(4, 24), -1);
    refused("sing(-1, -2)", EdgesRefusals::some, x -> x.sing(-1, -2), -1);
    Due.sentence(8, "REFUSALS, of several the first one told");
    refused("tire(4, 100)", EdgesRefusals::some, x -> x.tire(4, 100), -1);
    Due.sentence(4, "They change nothing.");
    refused("singer(0, 0, 0), full", EdgesRefusals::full, x -> x.singer(0, 0, 0), -4);
    refused("singer(0, 10, 0)", EdgesRefusals::some, x -> x.singer(0, 10, 0), -2);
    Due.sentence(5, "They change nothing.");
    refused("of(4, 0)", EdgesRefusals::some, x -> x.of(4, 0), -1);
    refused("of(0, 8)", EdgesRefusals::some, x -> x.of(0, 8), -1);
    Due.sentence(6, "They change nothing.");
    refused("row(0, 1, 10)", EdgesRefusals::some, x -> x.row(0, 1, 10), -2);
    refused("row(0, 4, 7)", EdgesRefusals::some, x -> x.row(0, 4, 7), -1);
    refused("row(1, 1, 7)", EdgesRefusals::some, x -> x.row(1, 1, 7), -3);
    Due.sentence(7, "They change nothing.");
    refused("sing(0, 12)", EdgesRefusals::some, x -> x.sing(0, 12), -2);
    refused("sing(1, 1)", EdgesRefusals::some, x -> x.sing(1, 1), -2);
    Due.sentence(8, "They change nothing.");
    refused("tire(0, 100)", EdgesRefusals::some, x -> x.tire(0, 100), -2);
    refused("tire(0, -1)", EdgesRefusals::some, x -> x.tire(0, -1), -2);
  }

  private static void refusedStones() {
    Due.sentence(9, "BAD: weight; FULL: 6.");
    refused("stone(61), full", EdgesRefusals::full, x -> x.stone(61), -2);
    refused("stone(0), full", EdgesRefusals::full, x -> x.stone(0), -2);
    Due.sentence(9, "They change nothing.");
    refused("stone(1), full", EdgesRefusals::full, x -> x.stone(1), -4);
    refused("stone(61)", EdgesRefusals::some, x -> x.stone(61), -2);
    Due.sentence(10, "They change nothing.");
    refused("at(4, 4)", EdgesRefusals::some, x -> x.at(4, 4), -1);
    Due.sentence(11, "They change nothing.");
    refused("prop(2, true), fallen", EdgesRefusals::some, x -> x.prop(2, true), -3);
    refused("prop(2, false), fallen", EdgesRefusals::some, x -> x.prop(2, false), -3);
    refused("prop(4, true)", EdgesRefusals::some, x -> x.prop(4, true), -1);
    Due.sentence(12, "They change nothing.");
    refused("told(6)", EdgesRefusals::some, x -> x.told(6), -1);
  }

  private static void refusedQuestions() {
    Due.sentence(14, "REFUSALS, of several the first one told");
    refused("on(41, 3)", EdgesRefusals::some, x -> x.on(41, 3), -1);
    refused("on(-1, 14)", EdgesRefusals::some, x -> x.on(-1, 14), -1);
    refused("on(41, 13)", EdgesRefusals::some, x -> x.on(41, 13), -2);
    Due.sentence(16, "REFUSALS, of several the first one told");
    refused("best(4, 2)", EdgesRefusals::some, x -> x.best(4, 2), -1);
    Due.sentence(17, "REFUSALS, of several the first one told");
    refused("chord(5) of six", EdgesRefusals::full, x -> x.chord(5), -1);
    refused("chord(-1) of six", EdgesRefusals::full, x -> x.chord(-1), -9);
    Due.sentence(20, "REFUSALS, of several the first one told");
    refused("shift(9, 3)", EdgesRefusals::some, x -> x.shift(9, 3), -1);
    refused("shift(0, -1)", EdgesRefusals::some, x -> x.shift(0, -1), -1);
    refused("shift(0, 2)", EdgesRefusals::some, x -> x.shift(0, 2), -2);
    Due.sentence(21, "They change nothing.");
    refused("ill(4)", EdgesRefusals::some, x -> x.ill(4), -1);
    refused("ill(3): it rests", EdgesRefusals::some, x -> x.ill(3), -5);
    Due.sentence(22, "REFUSALS, of several the first one told");
    refused("canon(31, 2)", EdgesRefusals::some, x -> x.canon(31, 2), -1);
    refused("canon(0, -1)", EdgesRefusals::some, x -> x.canon(0, -1), -1);
    refused("canon(0, 1)", EdgesRefusals::some, x -> x.canon(0, 1), -2);
    Due.sentence(23, "PROPS; -5. BAD: n.");
    refused("props(4)", EdgesRefusals::some, x -> x.props(4), -2);
    Due.sentence(24, "They change nothing.");
    refused("critical(2)", EdgesRefusals::some, x -> x.critical(2), -1);
    Due.sentence(28, "They change nothing.");
    refused("order(6)", EdgesRefusals::some, x -> x.order(6), -1);
  }

  private static void refusedSheets() {
    Due.sentence(26, "REFUSALS, of several the first one told");
    refused("dust(41, 0), full", EdgesRefusals::full, x -> x.dust(41, 0), -2);
    refused("dust(0, 7), full", EdgesRefusals::full, x -> x.dust(0, 7), -2);
    refused("dust(-2, -1)", EdgesRefusals::some, x -> x.dust(-2, -1), -2);
    Due.sentence(26, "They change nothing.");
    refused("dust(0, 1), full", EdgesRefusals::full, x -> x.dust(0, 1), -4);
    refused("dust(0, 7)", EdgesRefusals::some, x -> x.dust(0, 7), -2);
    refused("dust(41, 5)", EdgesRefusals::some, x -> x.dust(41, 5), -2);
    Due.sentence(32, "REFUSALS, of several the first one told");
    refused("plan(6, 24), full", EdgesRefusals::full, x -> x.plan(6, 24), -1);
    refused("plan(-2, 24)", EdgesRefusals::some, x -> x.plan(-2, 24), -1);
    refused("plan(0, 24), full", EdgesRefusals::full, x -> x.plan(0, 24), -2);
    refused("plan(0, -2), full", EdgesRefusals::full, x -> x.plan(0, -2), -2);
    Due.sentence(32, "They change nothing.");
    refused("plan(0, 0), full", EdgesRefusals::full, x -> x.plan(0, 0), -4);
    refused("plan(0, 24)", EdgesRefusals::some, x -> x.plan(0, 24), -2);
    refused("plan(4, 0)", EdgesRefusals::some, x -> x.plan(4, 0), -1);
    Due.sentence(33, "They change nothing.");
    refused("planned(2)", EdgesRefusals::some, x -> x.planned(2), -1);
    Due.sentence(34, "REFUSALS, of several the first one told");
    refused("book(6, 1000), full", EdgesRefusals::full, x -> x.book(6, 1000), -1);
    refused("book(-2, -1)", EdgesRefusals::some, x -> x.book(-2, -1), -1);
    refused("book(0, 1000), full", EdgesRefusals::full, x -> x.book(0, 1000), -2);
    refused("book(0, -1), full", EdgesRefusals::full, x -> x.book(0, -1), -2);
    Due.sentence(34, "They change nothing.");
    refused("book(0, 0), full", EdgesRefusals::full, x -> x.book(0, 0), -4);
    refused("book(0, 1000)", EdgesRefusals::some, x -> x.book(0, 1000), -2);
    refused("book(4, 0)", EdgesRefusals::some, x -> x.book(4, 0), -1);
  }

  private static void refusedOdds() {
    Due.sentence(29, "ODDS. NO.");
    refused("odds(2)", EdgesRefusals::some, x -> x.odds(2), NO);
    Due.sentence(30, "They change nothing.");
    refused("mean(41, 2)", EdgesRefusals::some, x -> x.mean(41, 2), NO);
    Due.sentence(31, "They change nothing.");
    refused("wage(4, 2)", EdgesRefusals::some, x -> x.wage(4, 2), NO);
  }

  private static void refusedActs() {
    Due.sentence(37, "They change nothing.");
    refused("trace(7)", EdgesRefusals::some, x -> x.trace(7), -1);
    Due.sentence(38, "REFUSALS, of several the first one told");
    refused("as(4, 7)", EdgesRefusals::some, x -> x.as(4, 7), -1);
    refused("as(1, 7)", EdgesRefusals::some, x -> x.as(1, 7), -1);
    refused("as(1, 2)", EdgesRefusals::some, x -> x.as(1, 2), -6);
    Due.sentence(40, "They change nothing.");
    ChoirRoof y = Due.choir(0, 4);
    long[] before = Seen.of(y);
    Due.is("undo(), no image", y.undo(), -3);
    Due.are("all that is seen behind undo()", Seen.of(y), before);
    Due.sentence(41, "They change nothing.");
    refused("count(8)", EdgesRefusals::some, x -> x.count(8), -1);
  }

  /** More calls than are promised, but no other way leads to the last beat. */
  private static void lastBeat() {
    Due.sentence(13, "They change nothing.");
    ChoirRoof x = some();
    for (int b = 1; b < 99999; b++) x.beat();
    Due.is("told(0)", x.told(0), 99999);
    x.tire(0, 5);
    x.tire(3, 5);
    x.prop(0, false);
    x.sing(1, -1);
    x.sing(2, -1);
    long[] before = Seen.of(x);
    Due.is("told(4): some are LOOSE", x.told(4) != 0 ? 1 : 0, 1);
    Due.is("beat(), the last", x.beat(), -3);
    Due.are("all that is seen behind beat()", Seen.of(x), before);
  }

  private static void asked(int promise, String call, ToLongFunction<ChoirRoof> called) {
    Due.sentence(promise, "All that follows is asked, goes on from how all is (BEATS beyond 99999, too), and changes nothing.");
    long due = called.applyAsLong(some());
    Seen.unchanged(call, EdgesRefusals::some, called, due);
    // Asked of one and the same roof again, whatever else was asked of it.
    ChoirRoof y = some();
    called.applyAsLong(y);
    y.shift(8, 2);
    y.canon(30, 1);
    y.chord(2);
    Due.is(call + " again", called.applyAsLong(y), due);
  }

  private static void questions() {
    for (int what : new int[] {0, 1, 2, 10, 13}) asked(14, "on(40, " + what + ")", x -> x.on(40, what));
    asked(15, "steady()", ChoirRoof::steady);
    for (int what = 0; what <= 1; what++) {
      int w = what;
      asked(16, "best(0, " + w + ")", x -> x.best(0, w));
      asked(16, "best(3, " + w + ")", x -> x.best(3, w));
      asked(22, "canon(30, " + w + ")", x -> x.canon(30, w));
      asked(24, "critical(" + w + ")", x -> x.critical(w));
      asked(29, "odds(" + w + ")", x -> x.odds(w));
      asked(30, "mean(40, " + w + ")", x -> x.mean(40, w));
      asked(31, "wage(1, " + w + ")", x -> x.wage(1, w));
      asked(33, "planned(" + w + ")", x -> x.planned(w));
    }
  }

  private static void dearQuestions() {
    for (int k = -1; k <= 4; k++) {
      int asked = k;
      asked(17, "chord(" + k + ")", x -> x.chord(asked));
    }
    asked(18, "needed()", ChoirRoof::needed);
    asked(19, "spare()", ChoirRoof::spare);
    for (int what = 0; what <= 2; what++) {
      int w = what;
      asked(20, "shift(8, " + w + ")", x -> x.shift(8, w));
    }
    for (int i = 0; i <= 3; i++) {
      int one = i;
      asked(21, "ill(" + i + ")", x -> x.ill(one));
    }
  }

  private static void questionsOfStones() {
    for (int n = 0; n <= 3; n++) {
      int most = n;
      asked(23, "props(" + n + ")", x -> x.props(most));
    }
    asked(25, "load()", ChoirRoof::load);
    asked(27, "flat()", ChoirRoof::flat);
    asked(28, "order(-1)", x -> x.order(-1));
    asked(28, "order(0)", x -> x.order(0));
    asked(35, "looked()", ChoirRoof::looked);
  }
}
