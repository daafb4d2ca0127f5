/** Promises 23 to 28. */
public final class StonesTest {
  public static void main(String[] args) {
    props();
    critical();
    load();
    dust();
    flat();
    order();
    Due.end();
  }

  /** Promise 23. */
  private static void props() {
    ChoirRoof x = Due.stones(Due.choir(0, 4, 7), 20, 30, 10, 5, 1);
    Due.is("props(0)", x.props(0), -5);
    Due.is("props(1)", x.props(1), 1);
    Due.is("props(3)", x.props(3), 1);
    Due.is("props(-1)", x.props(-1), -2);
    Due.is("props(4)", x.props(4), -2);
    x.prop(1, true);
    Due.is("props(0), the heaviest is propped", x.props(0), 0);
    Due.is("props(3), no stones", new ChoirRoof().props(3), 0);
    ChoirRoof y = Due.stones(new ChoirRoof(), 1, 60, 9);
    Due.is("props(2), nobody", y.props(2), -5);
    Due.is("props(3), nobody", y.props(3), 3);
    y.stone(1);
    Due.is("props(3), four of them", y.props(3), -5);
    ChoirRoof z = Due.stones(Due.choir(0, 4), 10, 12, 13, 9);
    Due.is("props(2): the heaviest two leave 19", z.props(2), 2);
  }

  /** Promise 24. */
  private static void critical() {
    ChoirRoof x = Due.stones(Due.choir(0, 0, 0, 0), 60);
    Due.is("critical(0)", x.critical(0), 6);
    Due.is("critical(1)", x.critical(1), 1);
    Due.is("critical(2)", x.critical(2), -1);
    Due.is("critical(-1)", x.critical(-1), -1);
    x.stone(1);
    Due.is("critical(0): each alone does", x.critical(0), 0);
    Due.is("critical(1): each alone does", x.critical(1), -5);
    ChoirRoof y = Due.stones(Due.choir(-1, 0, 0, 0, 0), 60, 60, 60);
    Due.is("critical(0): one is loose as it is", y.critical(0), 0);
    ChoirRoof z = Due.stones(Due.choir(-1, 0, 0, 0, 0), 60);
    Due.is("critical(0), the first rests", z.critical(0), 6);
    Due.is("critical(1), the first rests", z.critical(1), 12);
    ChoirRoof w = Due.stones(Due.choir(0, 0, 0, 0), 60, 60, 60);
    Due.is("critical(0): what is loose stays so", w.critical(0), 0);
    w.prop(0, true);
    w.prop(1, true);
    Due.is("critical(0) by the one that hangs", w.critical(0), 6);
    Due.is("critical(0), no stones", Due.choir(0, 0).critical(0), 0);
  }

  /** Promise 25. */
  private static void load() {
    ChoirRoof x = Due.stones(Due.choir(0, 4, 7), 20, 30, 10, 5, 1);
    Due.is("load()", x.load(), 6);
    x.prop(0, true);
    Due.is("load(), one propped", x.load(), -14);
    x.sing(0, -1);
    x.beat();
    Due.is("told(5)", x.told(5), 4);
    Due.is("load(), the others fallen", x.load(), -20);
    Due.is("load(), nothing at all", new ChoirRoof().load(), 0);
  }

  /** Promise 26. */
  private static void dust() {
    ChoirRoof x = new ChoirRoof();
    Due.is("dust(0, 0)", x.dust(0, 0), 1);
    Due.is("dust(40, 6)", x.dust(40, 6), 2);
    Due.is("dust(41, 0)", x.dust(41, 0), -2);
    Due.is("dust(-2, 0)", x.dust(-2, 0), -2);
    Due.is("dust(0, 7)", x.dust(0, 7), -2);
    Due.is("dust(0, -1)", x.dust(0, -1), -2);
    for (int i = 3; i <= 6; i++) Due.is("dust(1, 1)", x.dust(1, 1), i);
    Due.is("a 7. dust", x.dust(1, 1), -4);
    Due.is("a 7. dust that is bad", x.dust(1, 7), -2);
    Due.is("count(3)", x.count(3), 6);
    Due.is("dust(-1, 99)", x.dust(-1, 99), 0);
    Due.is("count(3)", x.count(3), 0);
    Due.is("dust(1, 1)", x.dust(1, 1), 1);
  }

  /** Promise 27. */
  private static void flat() {
    ChoirRoof x = Due.stones(Due.choir(0, 3, -1), 20);
    Due.is("flat(), no dust: all who sing", x.flat(), 3);
    x.dust(0, 0);
    Due.is("flat(), none as yet", x.flat(), 3);
    x.dust(1, 0);
    Due.is("flat(): a 0 stays a 0", x.flat(), 1);
    x.dust(-1, 0);
    x.dust(1, 1);
    Due.is("flat(): 2 is out of tune", x.flat(), 2);
    x.dust(1, 0);
    Due.is("flat(): nobody can do both", x.flat(), 0);
    x.dust(-1, 0);
    x.dust(20, 0);
    Due.is("flat(), 20 beats", x.flat(), 0);
    x.dust(-1, 0);
    x.dust(10, 0);
    x.dust(11, 1);
    Due.is("flat(): the tenth beat tires them", x.flat(), 1);
    ChoirRoof y = new ChoirRoof();
    y.singer(0, 0, 0);
    y.singer(0, 0, 5);
    y.sing(0, 0);
    y.sing(1, 5);
    y.stone(20);
    y.dust(1, 0);
    Due.is("flat(): below its range, too", y.flat(), 3);
    y.dust(-1, 0);
    y.dust(40, 1);
    Due.is("flat(): the last beat counts", y.flat(), 3);
    y.beat();
    Due.is("of(1, 3): nothing is changed", y.of(1, 3), 5);
    ChoirRoof w = Due.stones(Due.choir(0, 4), 20);
    w.dust(1, 0);
    Due.is("flat(): 3 is in tune, 2 were not", w.flat(), 3);
    ChoirRoof v = Due.stones(Due.choir(0, 4, 7), 42);
    for (int i = 0; i < 3; i++) v.tire(i, 1);
    v.dust(39, 0);
    v.dust(40, 1);
    Due.is("flat(): falls by the 40. beat", v.flat(), 3);
    v.dust(-1, 0);
    v.dust(40, 0);
    Due.is("flat(): told that it does not", v.flat(), 0);
    ChoirRoof z = Due.stones(Due.choir(0), 6);
    z.beat();
    z.dust(0, 1);
    Due.is("flat(): fallen before counts", z.flat(), 1);
  }

  /** Promise 28. */
  private static void order() {
    ChoirRoof x = Due.stones(Due.choir(0, 4, 7), 20, 30, 10, 10, 5);
    long[] order = new long[8];
    for (int k = -2; k < 6; k++) order[k + 2] = x.order(k);
    Due.are("order(-2 to 5)", order, -1, 1, 4, 2, 3, 0, 1, -5);
    Due.is("order(6)", x.order(6), -1);
    Due.is("told(4): by their numbers two are", x.told(4), 24);
    x.prop(4, true);
    x.prop(2, true);
    Due.is("order(0), two propped", x.order(0), 3);
    Due.is("order(2), two propped", x.order(2), 1);
    Due.is("order(3), two propped", x.order(3), -5);
    Due.is("order(-1), two propped", x.order(-1), 0);
    ChoirRoof y = Due.stones(Due.choir(0), 6, 5, 4);
    Due.is("order(-1): each is too heavy with the one before", y.order(-1), 2);
    y.beat();
    Due.is("order(0), all fallen", y.order(0), -5);
    Due.is("order(-1), all fallen", y.order(-1), 0);
  }
}
