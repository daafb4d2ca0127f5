/** Promises 29 to 35. */
public final class OddsTest {
  private static final long NO = Long.MIN_VALUE;

  public static void main(String[] args) {
    odds();
    mean();
    wage();
    plan();
    planned();
    book();
    looked();
    Due.end();
  }

  private static void fraction(String what, long above, long below, long dueAbove, long dueBelow) {
    Due.is(what + ", above", above, dueAbove);
    Due.is(what + ", below", below, dueBelow);
  }

  /** Promise 29. */
  private static void odds() {
    ChoirRoof x = Due.stones(Due.choir(0, 0, 0, 0), 60);
    fraction("odds, all can", x.odds(0), x.odds(1), 1, 1);
    x.stone(1);
    fraction("odds, none can", x.odds(0), x.odds(1), 0, 1);
    ChoirRoof y = Due.stones(Due.choir(0, 4, 7, 1), 40, 20);
    fraction("odds, one of four", y.odds(0), y.odds(1), 1, 4);
    y.singer(0, 0, 0);
    y.singer(0, 0, 0);
    fraction("odds, three of six", y.odds(0), y.odds(1), 1, 2);
    Due.is("odds(2)", y.odds(2), NO);
    Due.is("odds(-1)", y.odds(-1), NO);
    Due.is("odds(0), nobody", new ChoirRoof().odds(0), NO);
    Due.is("odds(1), nobody", new ChoirRoof().odds(1), NO);
  }

  /** Promise 30. */
  private static void mean() {
    ChoirRoof x = Due.choir(0);
    Due.read(x, "weary 10");
    fraction("mean of 1", x.mean(1, 0), x.mean(1, 1), 5, 1);
    fraction("mean of 2", x.mean(2, 0), x.mean(2, 1), 9, 2);
    fraction("mean of 4", x.mean(4, 0), x.mean(4, 1), 4, 1);
    fraction("mean of 40", x.mean(40, 0), x.mean(40, 1), 5, 8);
    fraction("mean, nobody", new ChoirRoof().mean(40, 0), new ChoirRoof().mean(40, 1), 0, 1);
    Due.is("mean(0, 0)", x.mean(0, 0), NO);
    Due.is("mean(41, 0)", x.mean(41, 0), NO);
    Due.is("mean(1, 2)", x.mean(1, 2), NO);
    Due.is("mean(1, -1)", x.mean(1, -1), NO);
    Due.is("told(0): nothing is changed", x.told(0), 0);
  }

  /** Promise 31. */
  private static void wage() {
    ChoirRoof x = Due.choir(0, 4, 7, -1);
    fraction("wage(0)", x.wage(0, 0), x.wage(0, 1), 75, 4);
    fraction("wage(3), it rests", x.wage(3, 0), x.wage(3, 1), 0, 1);
    fraction("wage, alone", Due.choir(0).wage(0, 0), Due.choir(0).wage(0, 1), 5, 1);
    fraction("wage, two", Due.choir(-1, 0, 4).wage(1, 0), Due.choir(-1, 0, 4).wage(1, 1), 10, 1);
    fraction("wage, out of tune", Due.choir(0, 1).wage(1, 0), Due.choir(0, 1).wage(1, 1), 5, 1);
    Due.is("wage(4, 0)", x.wage(4, 0), NO);
    Due.is("wage(-1, 0)", x.wage(-1, 0), NO);
    Due.is("wage(0, 2)", x.wage(0, 2), NO);
    Due.is("wage(3, -1)", x.wage(3, -1), NO);
  }

  /** Promise 32. */
  private static void plan() {
    ChoirRoof x = Due.choir(0);
    Due.is("plan(0, 23)", x.plan(0, 23), 1);
    Due.is("plan(0, -1)", x.plan(0, -1), 2);
    Due.is("plan(0, 24)", x.plan(0, 24), -2);
    Due.is("plan(0, -2)", x.plan(0, -2), -2);
    Due.is("plan(1, 24)", x.plan(1, 24), -1);
    Due.is("plan(-2, 0)", x.plan(-2, 0), -1);
    for (int i = 3; i <= 8; i++) Due.is("plan(0, 0)", x.plan(0, 0), i);
    Due.is("a 9. row", x.plan(0, 0), -4);
    Due.is("a 9. row of nobody", x.plan(1, 0), -1);
    Due.is("a 9. row with a bad note", x.plan(0, 24), -2);
    Due.is("count(4)", x.count(4), 8);
    Due.is("plan(-1, 99)", x.plan(-1, 99), 0);
    Due.is("count(4)", x.count(4), 0);
  }

  /** Promise 33. */
  private static void planned() {
    ChoirRoof x = new ChoirRoof();
    x.singer(0, 0, 0);
    x.singer(0, 0, 12);
    Due.stones(x, 5, 15);
    Due.is("planned(0), no plan", x.planned(0), 0);
    Due.is("planned(1), no plan", x.planned(1), 0);
    x.plan(0, 0);
    Due.is("planned(0): set ahead of its beat", x.planned(0), 1);
    Due.is("planned(1)", x.planned(1), 5);
    x.plan(1, 12);
    Due.is("planned(0), two rows", x.planned(0), 1);
    Due.is("planned(1), two rows", x.planned(1), 20);
    x.plan(1, 11);
    Due.is("planned(1): what it can not sing, it rests", x.planned(1), 5);
    x.plan(0, -1);
    Due.is("planned(0): rests, so the last one falls", x.planned(0), 2);
    Due.is("planned(1): rests", x.planned(1), 0);
    Due.is("planned(2)", x.planned(2), -1);
    Due.is("planned(-1)", x.planned(-1), -1);
    Due.is("of(0, 3): nothing is changed", x.of(0, 3), -5);
    x.plan(-1, 0);
    x.beat();
    Due.is("planned(0), fallen before", x.planned(0), 2);
  }

  /** Promise 34. */
  private static void book() {
    ChoirRoof x = Due.choir(0);
    Due.is("book(0, 0)", x.book(0, 0), 1);
    Due.is("book(0, 999)", x.book(0, 999), 2);
    Due.is("book(0, 1000)", x.book(0, 1000), -2);
    Due.is("book(0, -1)", x.book(0, -1), -2);
    Due.is("book(1, 1000)", x.book(1, 1000), -1);
    Due.is("book(-2, 0)", x.book(-2, 0), -1);
    for (int i = 3; i <= 8; i++) Due.is("book(0, 5)", x.book(0, 5), i);
    Due.is("a 9. row", x.book(0, 5), -4);
    Due.is("a 9. row of nobody", x.book(1, 5), -1);
    Due.is("a 9. row that is bad", x.book(0, 1000), -2);
    Due.is("count(5)", x.count(5), 8);
    Due.is("book(-1, 5000)", x.book(-1, 5000), 0);
    Due.is("count(5)", x.count(5), 0);
  }

  /** Promise 35. */
  private static void looked() {
    ChoirRoof x = Due.choir(0, 4, 7, -1);
    Due.is("looked(), no book", x.looked(), -5);
    x.book(0, 20);
    x.book(3, 0);
    x.book(1, 20);
    Due.is("looked(), all so", x.looked(), -5);
    x.book(2, 19);
    x.book(2, 18);
    Due.is("looked(): the first that is not so", x.looked(), 3);
    x.sing(0, -1);
    Due.is("looked(), asked anew", x.looked(), 0);
    x.book(-1, 0);
    x.book(0, 0);
    x.book(3, 1);
    Due.is("looked(), one at rest bears nothing", x.looked(), 1);
  }
}
