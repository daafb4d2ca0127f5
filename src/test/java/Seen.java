import java.util.ArrayList;
import java.util.List;
import java.util.function.Supplier;
import java.util.function.ToLongFunction;

/** What can be seen of a roof from outside, to tell that a call has changed nothing. */
final class Seen {
  private Seen() {
  }

  /** All that can be asked without changing anything, as one row; at most 137 calls. */
  static long[] of(ChoirRoof x) {
    List<Long> row = new ArrayList<>();
    for (int what = 0; what <= 7; what++) row.add((long) x.count(what));
    for (int what = 0; what <= 5; what++) row.add((long) x.told(what));
    for (int i = 0; i < x.count(0); i++) {
      for (int what = 0; what <= 7; what++) row.add((long) x.of(i, what));
      if (x.of(i, 0) == 6) addRow(x, i, row);
    }
    for (int s = 0; s < x.count(1); s++) {
      for (int what = 0; what <= 3; what++) row.add((long) x.at(s, what));
    }
    for (int i = 0; i < x.count(7); i++) row.add((long) x.trace(i));
    row.add((long) x.flat());
    row.add((long) x.planned(0));
    row.add((long) x.planned(1));
    row.add((long) x.looked());
    long[] numbers = new long[row.size()];
    for (int i = 0; i < numbers.length; i++) numbers[i] = row.get(i);
    return numbers;
  }

  /** A row is told only by a call that changes it; so it is written and put back. */
  private static void addRow(ChoirRoof x, int i, List<Long> row) {
    for (int k = 0; k < 4; k++) {
      int was = x.row(i, k, 0);
      x.row(i, k, was);
      row.add((long) was);
    }
  }

  /** Of two roofs made alike one is called: the answer is due, and both must stay alike, the tape and the image too. */
  static void unchanged(String call, Supplier<ChoirRoof> made, ToLongFunction<ChoirRoof> called, long due) {
    ChoirRoof x = made.get();
    ChoirRoof y = made.get();
    Due.is(call, called.applyAsLong(x), due);
    Due.are("all that is seen behind " + call, of(x), of(y));
    Due.is("setting() behind " + call, x.setting(), y.setting());
    for (int what = 1; what <= 3; what++) Due.is("told(" + what + ") behind " + call, x.told(what), y.told(what));
    Due.is("undo() behind " + call, x.undo(), y.undo());
    Due.are("the image behind " + call, of(x), of(y));
  }
}
