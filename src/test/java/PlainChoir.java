import java.util.ArrayList;
import java.util.HashMap;
import java.util.LinkedHashSet;
import java.util.List;
import java.util.Map;
import java.util.Set;
import java.util.TreeSet;

/**
 * The document once more, written as plainly as it can be said and with nothing taken over from
 * ChoirRoof: everything is an object that is copied whole, the grammar is tried in all ways at
 * once, clauses are read anew from their text each time. Slow, for comparison alone.
 */
final class PlainChoir {
  static final long NONE = -1, BAD = -2, STATE = -3, FULL = -4, NO = Long.MIN_VALUE;

  static final class Person {
    int number, kind, v, low, note = -1, tired;
    int[] row = new int[4];

    Person copy() {
      Person p = new Person();
      p.number = number;
      p.kind = kind;
      p.v = v;
      p.low = low;
      p.note = note;
      p.tired = tired;
      p.row = row.clone();
      return p;
    }

    List<Integer> range() {
      List<Integer> notes = new ArrayList<>();
      for (int n = low; n <= low + 11; n++) if (n <= 23) notes.add(n);
      return notes;
    }
  }

  static final class Rock {
    int number, weight;
    boolean propped, fallen;

    Rock copy() {
      Rock r = new Rock();
      r.number = number;
      r.weight = weight;
      r.propped = propped;
      r.fallen = fallen;
      return r;
    }
  }

  static final class World {
    List<Person> people = new ArrayList<>();
    List<Rock> rocks = new ArrayList<>();
    int beat;
    List<String> settings = new ArrayList<>();
    String tape = "";
    List<int[]> dust = new ArrayList<>(), plan = new ArrayList<>(), book = new ArrayList<>();

    World copy() {
      World w = new World();
      for (Person p : people) w.people.add(p.copy());
      for (Rock r : rocks) w.rocks.add(r.copy());
      w.beat = beat;
      w.settings = new ArrayList<>(settings);
      w.tape = tape;
      w.dust = new ArrayList<>(dust);
      w.plan = new ArrayList<>(plan);
      w.book = new ArrayList<>(book);
      return w;
    }

    String[] clauses() {
      return settings.isEmpty() ? new String[0] : settings.get(settings.size() - 1).split(";");
    }

    int last(String word, int without) {
      int n = without;
      for (String c : clauses()) {
        String[] parts = c.split(" ");
        if (parts[0].equals(word)) n = Integer.parseInt(parts[1]);
      }
      return n;
    }

    int force(Person p) {
      if (p.note < 0) return 0;
      int sum = strength(p) - p.tired / 10;
      for (String c : clauses()) {
        String[] parts = c.split(" ");
        if (parts.length < 3 || !Tests.holds(parts[2], p, beat)) continue;
        sum += (parts[0].equals("loud") ? 1 : -1) * Integer.parseInt(parts[1]);
      }
      return sum < 0 ? 0 : sum;
    }

    int strength(Person p) {
      int bass = p.note <= 11 ? 12 : 8;
      int boy = 8 + p.note / 2;
      int strong = 10 + p.v;
      if (p.kind == 0) return 10;
      if (p.kind == 1) return bass;
      if (p.kind == 2) return boy;
      if (p.kind == 3) return strong;
      if (p.kind == 4) return bass + (23 - p.note) / 4;
      if (p.kind == 5) return (beat + p.number) % (p.v + 2) == 0 ? 0 : boy;
      return strong + p.row[beat % 4];
    }

    int tune(Person p) {
      int n = 0;
      for (Person q : people) {
        if (q == p || q.note < 0 || p.note < 0) continue;
        if (List.of(0, 3, 4, 5, 7, 8, 9).contains(Math.abs(p.note - q.note) % 12)) n++;
      }
      return n;
    }

    int bears(Person p) {
      int others = tune(p);
      return others == 0 ? force(p) / 2 : force(p) * others;
    }

    int all() {
      int sum = 0;
      for (Person p : people) sum += bears(p);
      return sum;
    }

    List<Rock> hanging() {
      List<Rock> list = new ArrayList<>();
      for (Rock r : rocks) if (!r.propped && !r.fallen) list.add(r);
      return list;
    }

    List<Rock> looseOf(List<Rock> inOrder) {
      int all = all(), sum = 0;
      List<Rock> loose = new ArrayList<>();
      for (Rock r : inOrder) {
        sum += r.weight;
        if (!loose.isEmpty() || sum > all) loose.add(r);
      }
      return loose;
    }

    List<Rock> loose() {
      return looseOf(hanging());
    }

    int fallen() {
      int n = 0;
      for (Rock r : rocks) if (r.fallen) n++;
      return n;
    }

    int go() {
      List<Rock> loose = loose();
      for (Rock r : loose) r.fallen = true;
      int ease = last("ease", 3), weary = last("weary", 1);
      for (Person p : people) {
        if (p.note >= 0) p.tired = Math.min(99, p.tired + weary);
        else p.tired = Math.max(0, p.tired - ease);
      }
      beat++;
      return loose.size();
    }

    /** As this world is, but just these of the bits sing their notes. */
    World only(int bits) {
      World w = copy();
      for (Person p : w.people) if ((bits >> p.number & 1) == 0) p.note = -1;
      return w;
    }

    int singing() {
      int bits = 0;
      for (Person p : people) if (p.note >= 0) bits |= 1 << p.number;
      return bits;
    }

    World without(int who) {
      return only(singing() & ~(1 << who));
    }
  }

  /** Evaluates the text of an E that is known to be right. */
  static final class Tests {
    static boolean holds(String e, Person p, int beat) {
      for (String t : split(e, '|')) {
        boolean both = true;
        for (String f : split(t, '&')) both &= factor(f, p, beat);
        if (both) return true;
      }
      return false;
    }

    private static boolean factor(String f, Person p, int beat) {
      if (f.charAt(0) == '!') return !factor(f.substring(1), p, beat);
      if (f.charAt(0) == '(') return holds(f.substring(1, f.length() - 1), p, beat);
      int n = Integer.parseInt(f.substring(2));
      int is;
      switch (f.charAt(0)) {
        case 's': is = p.number; break;
        case 'k': is = p.kind; break;
        case 'v': is = p.v; break;
        case 'n': is = p.note; break;
        case 't': is = p.tired / 10; break;
        default: is = beat % 10;
      }
      return f.charAt(1) == '<' ? is < n : f.charAt(1) == '=' ? is == n : is > n;
    }

    private static List<String> split(String e, char by) {
      List<String> parts = new ArrayList<>();
      int open = 0, from = 0;
      for (int i = 0; i < e.length(); i++) {
        char c = e.charAt(i);
        if (c == '(') open++;
        if (c == ')') open--;
        if (c == by && open == 0) {
          parts.add(e.substring(from, i));
          from = i + 1;
        }
      }
      parts.add(e.substring(from));
      return parts;
    }
  }

  /** All ways in which the grammar can go on, as rows of symbols that are still to come. */
  static final class Grammar {
    private static final Map<Character, String[]> RULES = new HashMap<>();

    // Signs above 255 stand for what is still to be expanded.
    private static final char CLAUSES = 1000, CLAUSE = 1100, NUMBER = 1101, E = 1200, T = 1300, F = 1400, TEST = 1500;

    static {
      for (int left = 1; left <= 10; left++) {
        RULES.put((char) (CLAUSES + left), left == 1 ? new String[] {"" + CLAUSE}
            : new String[] {"" + CLAUSE, "" + CLAUSE + ";" + (char) (CLAUSES + left - 1)});
      }
      RULES.put(CLAUSE, new String[] {"ease " + NUMBER, "weary " + NUMBER, "loud " + NUMBER + " " + E, "draught " + NUMBER + " " + E});
      List<String> numbers = new ArrayList<>();
      for (int n = 0; n <= 99; n++) numbers.add(String.valueOf(n));
      RULES.put(NUMBER, numbers.toArray(new String[0]));
      List<String> tests = new ArrayList<>();
      for (char a : "skvntb".toCharArray()) for (char b : "<=>".toCharArray()) tests.add("" + a + b + NUMBER);
      RULES.put(TEST, tests.toArray(new String[0]));
      for (int open = 0; open <= 5; open++) {
        char e = (char) (E + open), t = (char) (T + open), f = (char) (F + open);
        RULES.put(e, new String[] {"" + t, t + "|" + e});
        RULES.put(t, new String[] {"" + f, f + "&" + t});
        RULES.put(f, open == 5 ? new String[] {"" + TEST}
            : new String[] {"" + TEST, "!" + (char) (f + 1), "(" + (char) (e + 1) + ")"});
      }
    }

    /** The FAULT, or -1. */
    static int fault(String tape) {
      Set<String> ways = new LinkedHashSet<>();
      expand("" + (char) (CLAUSES + 10), ways);
      for (int i = 0; i < tape.length(); i++) {
        Set<String> next = new LinkedHashSet<>();
        for (String way : ways) {
          if (!way.isEmpty() && way.charAt(0) == tape.charAt(i)) expand(way.substring(1), next);
        }
        if (next.isEmpty()) return i;
        ways = next;
      }
      return ways.contains("") ? -1 : tape.length();
    }

    private static void expand(String way, Set<String> into) {
      if (way.isEmpty() || way.charAt(0) < 256) {
        into.add(way);
        return;
      }
      for (String rule : RULES.get(way.charAt(0))) expand(rule + way.substring(1), into);
    }
  }

  private World now = new World();
  private World image;
  private final List<Integer> trace = new ArrayList<>();

  private boolean is(int singer) {
    return singer >= 0 && singer < now.people.size();
  }

  long feed(int sign) {
    if (sign < 0 || sign > 127) return BAD;
    if (now.tape.length() == 100) return FULL;
    now.tape += (char) sign;
    return now.tape.length();
  }

  long setting() {
    if (now.settings.size() == 5) return FULL;
    String text = now.tape;
    now.tape = "";
    int fault = Grammar.fault(text);
    if (fault >= 0) return -10 - fault;
    now.settings.add(text);
    return now.settings.size() - 1;
  }

  long singer(int kind, int v, int low) {
    if (kind < 0 || kind > 6) return NONE;
    if (v < 0 || v > 9 || low < 0 || low > 23) return BAD;
    if (now.people.size() == 6) return FULL;
    Person p = new Person();
    p.number = now.people.size();
    p.kind = kind;
    p.v = v;
    p.low = low;
    now.people.add(p);
    return p.number;
  }

  long of(int singer, int what) {
    if (!is(singer) || what < 0 || what > 7) return NONE;
    Person p = now.people.get(singer);
    return new int[] {p.kind, p.v, p.low, p.note < 0 ? -5 : p.note, p.tired, now.force(p), now.bears(p), now.tune(p)}[what];
  }

  long row(int singer, int k, int n) {
    if (!is(singer) || k < 0 || k > 3) return NONE;
    if (n < 0 || n > 9) return BAD;
    Person p = now.people.get(singer);
    if (p.kind != 6) return STATE;
    int was = p.row[k];
    p.row[k] = n;
    return was;
  }

  long sing(int singer, int note) {
    if (!is(singer)) return NONE;
    Person p = now.people.get(singer);
    if (note != -1 && !p.range().contains(note)) return BAD;
    int was = p.note;
    p.note = note;
    return was < 0 ? -5 : was;
  }

  long tire(int singer, int n) {
    if (!is(singer)) return NONE;
    if (n < 0 || n > 99) return BAD;
    int was = now.people.get(singer).tired;
    now.people.get(singer).tired = n;
    return was;
  }

  long stone(int weight) {
    if (weight < 1 || weight > 60) return BAD;
    if (now.rocks.size() == 6) return FULL;
    Rock r = new Rock();
    r.number = now.rocks.size();
    r.weight = weight;
    now.rocks.add(r);
    return r.number;
  }

  long at(int stone, int what) {
    if (stone < 0 || stone >= now.rocks.size() || what < 0 || what > 3) return NONE;
    Rock r = now.rocks.get(stone);
    if (what == 0) return r.weight;
    boolean yes = what == 1 ? r.propped : what == 2 ? r.fallen : now.loose().contains(r);
    return yes ? 1 : 0;
  }

  long prop(int stone, boolean is) {
    if (stone < 0 || stone >= now.rocks.size()) return NONE;
    Rock r = now.rocks.get(stone);
    if (r.fallen) return STATE;
    boolean was = r.propped;
    r.propped = is;
    return was ? 1 : 0;
  }

  long told(int what) {
    int loose = 0;
    for (Rock r : now.loose()) loose |= 1 << r.number;
    switch (what) {
      case 0: return now.beat;
      case 1: return now.last("ease", 3);
      case 2: return now.last("weary", 1);
      case 3: return now.all();
      case 4: return loose;
      case 5: return now.fallen();
      default: return NONE;
    }
  }

  long beat() {
    return now.beat == 99999 ? STATE : now.go();
  }

  private static World behind(World from, int n) {
    World w = from.copy();
    for (int b = 0; b < n; b++) w.go();
    return w;
  }

  long on(int n, int what) {
    if (what < 0 || what > 2 && what < 10 || what >= 10 && !is(what - 10)) return NONE;
    if (n < 0 || n > 40) return BAD;
    if (what == 0) return behind(now, n).fallen();
    if (what == 2) return behind(now, n).all();
    if (what >= 10) return behind(now, n).people.get(what - 10).tired;
    for (int b = 1; b <= n; b++) if (behind(now, b).fallen() > now.fallen()) return b;
    return -5;
  }

  long steady() {
    for (int b = 0; b <= 60; b++) if (!behind(now, b).loose().isEmpty()) return b;
    return -5;
  }

  private static World singing(World from, int who, int note) {
    World w = from.copy();
    w.people.get(who).note = note;
    return w;
  }

  long best(int singer, int what) {
    if (!is(singer) || what < 0 || what > 1) return NONE;
    int most = -1, best = -1;
    for (int note : now.people.get(singer).range()) {
      int all = singing(now, singer, note).all();
      if (all > most) {
        most = all;
        best = note;
      }
    }
    return what == 0 ? best : most;
  }

  long chord(int k) {
    if (k < -1 || k > 4) return NONE;
    if (now.people.size() > 5) return -9;
    if (k >= now.people.size()) return -5;
    World w = now.copy();
    int[] best = new int[6];
    best[5] = -1;
    chords(w, 0, best);
    return k == -1 ? best[5] : best[k];
  }

  private static void chords(World w, int i, int[] best) {
    if (i == w.people.size()) {
      int all = w.all();
      if (all > best[5]) {
        best[5] = all;
        for (Person p : w.people) best[p.number] = p.note;
      }
      return;
    }
    Person p = w.people.get(i);
    Set<Integer> notes = new TreeSet<>();
    for (int above : new int[] {0, 2, 4, 5, 7}) notes.add(Math.min(23, p.low + above));
    for (int note : notes) {
      p.note = note;
      chords(w, i + 1, best);
    }
  }

  long needed() {
    int who = -5, least = Integer.MAX_VALUE;
    for (Person p : now.people) {
      if (p.note < 0) continue;
      int all = now.without(p.number).all();
      if (all < least) {
        least = all;
        who = p.number;
      }
    }
    return who;
  }

  private boolean makesNoneLooser(int bits) {
    return now.loose().size() >= now.only(now.singing() & ~bits).loose().size();
  }

  long spare() {
    int bits = 0;
    for (Person p : now.people) if (p.note >= 0 && makesNoneLooser(1 << p.number)) bits |= 1 << p.number;
    return bits;
  }

  long shift(int n, int what) {
    if (what < 0 || what > 2) return NONE;
    if (n < 1 || n > 8) return BAD;
    World w = now.copy();
    int chosen = 0;
    for (int b = 0; b < n; b++) {
      chosen = -1;
      for (int size = 0; size <= 6 && chosen < 0; size++) {
        for (int bits = 0; bits < 64 && chosen < 0; bits++) {
          if (Integer.bitCount(bits) != size || (bits & ~now.singing()) != 0) continue;
          if (withNotes(w, bits).loose().isEmpty()) chosen = bits;
        }
      }
      if (chosen < 0) chosen = now.singing();
      w = withNotes(w, chosen);
      w.go();
    }
    int tired = 0;
    for (Person p : w.people) tired += p.tired;
    return what == 0 ? tired : what == 1 ? w.fallen() : chosen;
  }

  private World withNotes(World from, int bits) {
    World w = from.copy();
    for (Person p : w.people) p.note = (bits >> p.number & 1) == 1 ? now.people.get(p.number).note : -1;
    return w;
  }

  long ill(int singer) {
    if (!is(singer)) return NONE;
    if (now.people.get(singer).note < 0) return -5;
    World without = now.without(singer);
    int most = -1, answer = -5;
    for (Person q : now.people) {
      if (q.note >= 0) continue;
      for (int note : q.range()) {
        int all = singing(without, q.number, note).all();
        if (all > most) {
          most = all;
          answer = 100 * q.number + note;
        }
      }
    }
    return answer;
  }

  long canon(int n, int what) {
    if (what < 0 || what > 1) return NONE;
    if (n < 1 || n > 30) return BAD;
    World w = now.copy();
    int least = Integer.MAX_VALUE, size = w.people.size();
    for (int b = 0; b < n; b++) {
      least = Math.min(least, w.all());
      w.go();
      int[] old = new int[size];
      for (int i = 0; i < size; i++) old[i] = w.people.get(i).note;
      for (int i = 0; i < size; i++) {
        Person p = w.people.get((i + 1) % size);
        p.note = p.range().contains(old[i]) ? old[i] : -1;
      }
    }
    return what == 0 ? w.fallen() : least;
  }

  long props(int n) {
    if (n < 0 || n > 3) return BAD;
    int fewest = 99;
    for (int bits = 0; bits < 64; bits++) {
      World w = now.copy();
      for (Rock r : w.hanging()) if ((bits >> r.number & 1) == 1) r.propped = true;
      if (w.loose().isEmpty()) fewest = Math.min(fewest, Integer.bitCount(bits));
    }
    return fewest > n ? -5 : fewest;
  }

  long critical(int what) {
    if (what < 0 || what > 1) return NONE;
    List<Integer> pairs = new ArrayList<>();
    for (int i = 0; i < 6; i++) {
      for (int j = i + 1; j < 6; j++) {
        int a = 1 << i, b = 1 << j;
        if ((now.singing() & a) == 0 || (now.singing() & b) == 0) continue;
        if (makesNoneLooser(a) && makesNoneLooser(b) && !makesNoneLooser(a | b)) pairs.add(10 * i + j);
      }
    }
    return what == 0 ? pairs.size() : pairs.isEmpty() ? -5 : pairs.get(0);
  }

  long load() {
    int sum = 0;
    for (Rock r : now.hanging()) sum += r.weight;
    return sum - now.all();
  }

  long dust(int beats, int fallen) {
    if (beats == -1) {
      now.dust.clear();
      return 0;
    }
    if (beats < 0 || beats > 40 || fallen < 0 || fallen > 6) return BAD;
    if (now.dust.size() == 6) return FULL;
    now.dust.add(new int[] {beats, fallen});
    return now.dust.size();
  }

  long flat() {
    int bits = 0;
    for (Person p : now.people) {
      if (p.note < 0) continue;
      World w = singing(now, p.number, Math.max(0, p.note - 1));
      boolean so = true;
      for (int[] d : now.dust) so &= behind(w, d[0]).fallen() == d[1];
      if (so) bits |= 1 << p.number;
    }
    return bits;
  }

  long order(int k) {
    if (k < -1 || k > 5) return NONE;
    List<Rock> list = now.hanging();
    list.sort((a, b) -> a.weight != b.weight ? a.weight - b.weight : a.number - b.number);
    if (k == -1) return now.looseOf(list).size();
    return k < list.size() ? list.get(k).number : -5;
  }

  private static long fraction(long above, long below, int part) {
    if (part < 0 || part > 1) return NO;
    for (long d = below; d > 1; d--) {
      if (above % d == 0 && below % d == 0) {
        above /= d;
        below /= d;
      }
    }
    return part == 0 ? above : below;
  }

  long odds(int part) {
    if (now.people.isEmpty()) return NO;
    int good = 0;
    for (Person p : now.people) if (now.without(p.number).loose().isEmpty()) good++;
    return fraction(good, now.people.size(), part);
  }

  long mean(int n, int part) {
    if (n < 1 || n > 40) return NO;
    long sum = 0;
    for (int b = 0; b < n; b++) sum += behind(now, b).all();
    return fraction(sum, n, part);
  }

  long wage(int singer, int part) {
    if (!is(singer)) return NO;
    int one = 1 << singer;
    if ((now.singing() & one) == 0) return fraction(0, 1, part);
    long sum = 0, sets = 0;
    for (int bits = 0; bits < 64; bits++) {
      if ((bits & one) != 0 || (bits & ~now.singing()) != 0) continue;
      sum += now.only(bits | one).all() - now.only(bits).all();
      sets++;
    }
    return fraction(sum, sets, part);
  }

  private long tell(List<int[]> rows, int singer, int n, int least, int most) {
    if (singer == -1) {
      rows.clear();
      return 0;
    }
    if (!is(singer)) return NONE;
    if (n < least || n > most) return BAD;
    if (rows.size() == 8) return FULL;
    rows.add(new int[] {singer, n});
    return rows.size();
  }

  long plan(int singer, int note) {
    return tell(now.plan, singer, note, -1, 23);
  }

  long planned(int what) {
    if (what < 0 || what > 1) return NONE;
    World w = now.copy();
    for (int[] r : now.plan) {
      Person p = w.people.get(r[0]);
      p.note = p.range().contains(r[1]) ? r[1] : -1;
      w.go();
    }
    return what == 0 ? w.fallen() : w.all();
  }

  long book(int singer, int bears) {
    return tell(now.book, singer, bears, 0, 999);
  }

  long looked() {
    for (int i = 0; i < now.book.size(); i++) {
      int[] r = now.book.get(i);
      if (now.bears(now.people.get(r[0])) != r[1]) return i;
    }
    return -5;
  }

  // The kinds as real classes, so that Java itself says which body super and a plain call mean.

  private class Singer {
    final int i, v;

    Singer(int i, int v) {
      this.i = i;
      this.v = v;
    }

    int sings(int x) {
      trace.add(1);
      return x + i;
    }

    int bears(int x) {
      trace.add(2);
      return sings(x) - v;
    }

    int tells(int x) {
      trace.add(3);
      return bears(x) * 2;
    }
  }

  private class Bass extends Singer {
    Bass(int i, int v) {
      super(i, v);
    }

    @Override int sings(int x) {
      trace.add(11);
      return super.sings(x * 3);
    }
  }

  private class Boy extends Singer {
    Boy(int i, int v) {
      super(i, v);
    }

    @Override int bears(int x) {
      trace.add(21);
      return -super.bears(x);
    }
  }

  private class Strong extends Singer {
    Strong(int i, int v) {
      super(i, v);
    }

    @Override int tells(int x) {
      trace.add(31);
      return super.tells(x) ^ 7;
    }
  }

  private class Deep extends Bass {
    Deep(int i, int v) {
      super(i, v);
    }

    @Override int tells(int x) {
      trace.add(41);
      return super.tells(x - 1) + sings(2);
    }
  }

  private class Breaking extends Boy {
    Breaking(int i, int v) {
      super(i, v);
    }

    @Override int sings(int x) {
      trace.add(51);
      return super.sings(x) ^ i;
    }
  }

  private class Told extends Strong {
    Told(int i, int v) {
      super(i, v);
    }

    @Override int bears(int x) {
      trace.add(61);
      return super.bears(x) + v;
    }
  }

  private Singer body(Person p) {
    switch (p.kind) {
      case 0: return new Singer(p.number, p.v);
      case 1: return new Bass(p.number, p.v);
      case 2: return new Boy(p.number, p.v);
      case 3: return new Strong(p.number, p.v);
      case 4: return new Deep(p.number, p.v);
      case 5: return new Breaking(p.number, p.v);
      default: return new Told(p.number, p.v);
    }
  }

  long act(int singer, int act, int x) {
    trace.clear();
    if (!is(singer) || act < 0 || act > 2) return 0;
    Singer s = body(now.people.get(singer));
    return act == 0 ? s.sings(x) : act == 1 ? s.bears(x) : s.tells(x);
  }

  long trace(int i) {
    return i < 0 || i >= 20 || i >= trace.size() ? NONE : trace.get(i);
  }

  long as(int singer, int k) {
    if (!is(singer) || k < 0 || k > 6) return NONE;
    Class<?>[] kinds = {Singer.class, Bass.class, Boy.class, Strong.class, Deep.class, Breaking.class, Told.class};
    Person p = now.people.get(singer);
    return kinds[k].isInstance(body(p)) ? p.v : -6;
  }

  long image() {
    image = now.copy();
    return now.people.size();
  }

  long undo() {
    if (image == null) return STATE;
    now = image.copy();
    return now.people.size();
  }

  long count(int what) {
    switch (what) {
      case 0: return now.people.size();
      case 1: return now.rocks.size();
      case 2: return now.settings.size();
      case 3: return now.dust.size();
      case 4: return now.plan.size();
      case 5: return now.book.size();
      case 6: return now.tape.length();
      case 7: return trace.size();
      default: return NONE;
    }
  }
}
