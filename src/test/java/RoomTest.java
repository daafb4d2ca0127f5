import com.sun.management.ThreadMXBean;
import java.lang.management.ManagementFactory;

/** The room: a run of the dearest calls makes next to nothing behind the constructor; and odd arguments end. */
public final class RoomTest {
  private static final int[] ODD = {Integer.MIN_VALUE, -7, -2, -1, 0, 1, 2, 3, 5, 6, 7, 9, 10, 15, 23, 24, 40, 41, 100, Integer.MAX_VALUE};

  public static void main(String[] args) {
    room();
    oddArguments(new ChoirRoof());
    oddArguments(full());
    Due.end();
  }

  private static ChoirRoof full() {
    ChoirRoof x = new ChoirRoof();
    for (int i = 0; i < 5; i++) {
      x.singer(i + 2, i, i);
      if (i != 3) x.sing(i, 7 + i);
    }
    for (int i = 0; i < 6; i++) x.stone(20);
    Due.read(x, "loud 5 !(s=1|k=2)&t<3|(n>4&(b=3|v<5));draught 3 ((((s<9))));weary 2");
    for (int i = 0; i < 6; i++) x.dust(40, i);
    for (int i = 0; i < 8; i++) x.plan(i % 5, 8);
    for (int i = 0; i < 8; i++) x.book(i % 5, 8);
    return x;
  }

  private static void dearest(ChoirRoof x, int calls) {
    for (int i = 0; i < calls / 16; i++) {
      x.chord(0);
      x.flat();
      x.steady();
      x.shift(8, 0);
      x.on(40, 0);
      x.canon(30, 0);
      x.mean(40, 0);
      x.ill(0);
      x.wage(0, 0);
      x.planned(0);
      x.critical(0);
      x.image();
      x.undo();
      x.act(4, 2, 5);
      x.feed(1);
      x.setting();
    }
  }

  private static void room() {
    ThreadMXBean bean = (ThreadMXBean) ManagementFactory.getThreadMXBean();
    if (!bean.isThreadAllocatedMemorySupported()) {
      System.out.println("this machine does not tell what is made");
      return;
    }
    long id = Thread.currentThread().getId();
    dearest(full(), 512);
    ChoirRoof x = full();
    long before = bean.getThreadAllocatedBytes(id);
    dearest(x, 512);
    long made = bean.getThreadAllocatedBytes(id) - before;
    // Asking the bean makes a little itself; a row a call would be far above this.
    Due.is("bytes made by 512 calls: " + made, made < 8192 ? 1 : 0, 1);
    before = bean.getThreadAllocatedBytes(id);
    new ChoirRoof();
    made = bean.getThreadAllocatedBytes(id) - before;
    Due.is("bytes made by the constructor: " + made, made < 65536 ? 1 : 0, 1);
  }

  /** Every call with all odd arguments, over and over: none throws, none changes the counts' limits. */
  private static void oddArguments(ChoirRoof x) {
    for (int a : ODD) {
      for (int b : ODD) {
        one(x, a, b);
        for (int c : ODD) {
          x.singer(a, b, c);
          x.row(a, b, c);
          x.act(a, b, c);
        }
      }
    }
    Due.is("count(0)", x.count(0), 6);
    Due.is("count(1)", x.count(1), 6);
  }

  private static void one(ChoirRoof x, int a, int b) {
    x.feed(a);
    x.setting();
    x.of(a, b);
    x.sing(a, b);
    x.tire(a, b);
    x.stone(a);
    x.at(a, b);
    x.prop(a, b > 0);
    x.told(a);
    x.beat();
    x.on(a, b);
    x.steady();
    x.best(a, b);
    if (b == 0) x.chord(a);
    x.needed();
    x.spare();
    x.shift(a, b);
    x.ill(a);
    x.canon(a, b);
    x.props(a);
    x.critical(a);
    x.load();
    x.dust(a, b);
    x.flat();
    x.order(a);
    x.odds(a);
    x.mean(a, b);
    x.wage(a, b);
    x.plan(a, b);
    x.planned(a);
    x.book(a, b);
    x.looked();
    x.trace(a);
    x.as(a, b);
    if (a == b) x.image();
    if (a == 3 && b > 7) x.undo();
    x.count(a);
  }
}
