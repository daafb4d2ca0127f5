import java.lang.reflect.Method;
import java.lang.reflect.Modifier;
import java.util.ArrayList;
import java.util.Arrays;
import java.util.LinkedHashMap;
import java.util.List;
import java.util.Map;
import java.util.Random;

/** Runs of calls, made by a fixed seed, on a ChoirRoof and on a PlainChoir: both must answer alike. */
public final class RandomRunsTest {
  private static final int RUNS = 400, CALLS = 400;

  private static final Map<String, Integer> ASKED = new LinkedHashMap<>();

  /** How often each call comes, against the others. */
  private static final String[] OFTEN = {
    "write 12", "setting 2", "feed 4", "singer 8", "of 12", "row 6", "sing 40", "tire 12", "stone 6", "at 10",
    "prop 5", "told 10", "beat 8", "on 10", "steady 6", "best 8", "chord 4", "needed 6", "spare 6",
    "shift 10", "ill 8", "canon 10", "props 8", "critical 8", "load 4", "dust 8", "flat 8", "order 8",
    "odds 8", "mean 6", "wage 8", "plan 10", "planned 8", "book 8", "looked 8", "act 8", "trace 6",
    "as 6", "image 2", "undo 2", "count 6"
  };

  private final Random random;
  private final ChoirRoof roof = new ChoirRoof();
  private final PlainChoir plain = new PlainChoir();
  private final List<String> told = new ArrayList<>();

  private RandomRunsTest(long seed) {
    random = new Random(seed);
  }

  public static void main(String[] args) {
    int runs = args.length > 1 ? Integer.parseInt(args[1]) : RUNS;
    for (int seed = 0; seed < runs; seed++) {
      RandomRunsTest run = new RandomRunsTest(seed);
      if (!run.go()) {
        System.out.println("seed " + seed);
        for (String row : run.told) System.out.println("  " + row);
        System.exit(1);
      }
    }
    for (String often : OFTEN) {
      String name = often.substring(0, often.indexOf(' '));
      if (!name.equals("write") && ASKED.getOrDefault(name, 0) == 0) {
        System.out.println("no answer of " + name + " but refusals was compared");
        System.exit(1);
      }
    }
    System.out.println(runs + " runs answered alike");
  }

  private boolean go() {
    // Most runs begin with people and stones, else few would ever have a full choir.
    if (random.nextInt(8) != 0) {
      int singers = 1 + random.nextInt(6), stones = random.nextInt(7), low = random.nextInt(14);
      for (int i = 0; i < singers; i++) {
        if (!ask("singer", random.nextInt(7), random.nextInt(10), random.nextInt(3) == 0 ? random.nextInt(24) : low)) return false;
      }
      int most = random.nextBoolean() ? 60 : 25;
      for (int i = 0; i < stones; i++) if (!ask("stone", 1 + random.nextInt(most))) return false;
      for (int i = 0; i < singers; i++) if (random.nextInt(3) != 0 && !ask("sing", i, note(i))) return false;
    }
    int weights = 0;
    for (String o : OFTEN) weights += Integer.parseInt(o.substring(o.indexOf(' ') + 1));
    while (told.size() < CALLS) {
      int at = random.nextInt(weights), k = -1;
      while (at >= 0) at -= Integer.parseInt(OFTEN[++k].substring(OFTEN[k].indexOf(' ') + 1));
      String name = OFTEN[k].substring(0, OFTEN[k].indexOf(' '));
      boolean same = name.equals("write") ? write() : ask(name, arguments(name));
      if (!same) return false;
    }
    return true;
  }

  private boolean ask(String name, int... a) {
    long got = call(roof, name, a);
    long want = call(plain, name, a);
    told.add(name + Arrays.toString(a) + " answered " + got + (got == want ? "" : ", due is " + want));
    if (got >= 0) ASKED.merge(name, 1, Integer::sum);
    return got == want;
  }

  /** Calls a method by its name, so that both sides are surely asked the same. */
  private static long call(Object on, String name, int[] a) {
    Method method = null;
    for (Method m : on.getClass().getDeclaredMethods()) {
      if (m.getName().equals(name) && !Modifier.isPrivate(m.getModifiers())) method = m;
    }
    Object[] arguments = new Object[a.length];
    for (int i = 0; i < a.length; i++) {
      arguments[i] = method.getParameterTypes()[i] == boolean.class ? (Object) (a[i] != 0) : (Object) a[i];
    }
    try {
      return ((Number) method.invoke(on, arguments)).longValue();
    } catch (ReflectiveOperationException e) {
      throw new IllegalStateException(name + Arrays.toString(a), e);
    }
  }

  // ---- arguments: mostly right ones, some at the edge, some wild

  private int some(int least, int most) {
    int way = random.nextInt(40);
    if (way == 0) return least - 1;
    if (way == 1) return most + 1;
    if (way == 2) return random.nextInt();
    if (way == 3) return random.nextBoolean() ? Integer.MIN_VALUE : Integer.MAX_VALUE;
    if (way == 4) return least;
    if (way == 5) return most;
    return least + random.nextInt(most - least + 1);
  }

  private int who() {
    int people = (int) plain.count(0);
    return some(0, Math.max(0, people - 1));
  }

  private int note(int singer) {
    long low = plain.of(singer, 2);
    if (low < 0 || random.nextInt(12) == 0) return some(-1, 23);
    if (random.nextInt(7) == 0) return -1;
    return (int) Math.min(23, low + random.nextInt(12));
  }

  private int[] arguments(String name) {
    int who = who();
    switch (name) {
      case "feed": return new int[] {some(0, 127)};
      case "singer": return new int[] {some(0, 6), some(0, 9), some(0, 23)};
      case "of": return new int[] {who, some(0, 7)};
      case "row": return new int[] {who, some(0, 3), some(0, 9)};
      case "sing": return new int[] {who, note(who)};
      case "tire": return new int[] {who, some(0, 99)};
      case "stone": return new int[] {some(1, 60)};
      case "at": return new int[] {some(0, 5), some(0, 3)};
      case "prop": return new int[] {some(0, 5), random.nextInt(2)};
      case "told": return new int[] {some(0, 5)};
      case "on": return new int[] {some(0, 40), random.nextBoolean() ? some(0, 2) : some(10, 15)};
      case "best": return new int[] {who, some(0, 1)};
      case "chord": return new int[] {some(-1, 4)};
      case "shift": return new int[] {some(1, 8), some(0, 2)};
      case "ill": return new int[] {who};
      case "canon": return new int[] {some(1, 30), some(0, 1)};
      case "props": return new int[] {some(0, 3)};
      case "critical": return new int[] {some(0, 1)};
      case "dust": return dustArguments();
      case "order": return new int[] {some(-1, 5)};
      case "odds": return new int[] {some(0, 1)};
      case "mean": return new int[] {some(1, 40), some(0, 1)};
      case "wage": return new int[] {who, some(0, 1)};
      case "plan": return random.nextInt(9) == 0 ? new int[] {-1, some(-1, 23)} : new int[] {who, note(who)};
      case "planned": return new int[] {some(0, 1)};
      case "book": return bookArguments(who);
      case "act": return new int[] {who, some(0, 2), random.nextBoolean() ? some(-9, 9) : random.nextInt()};
      case "trace": return new int[] {some(0, 6)};
      case "as": return new int[] {who, some(0, 6)};
      case "count": return new int[] {some(0, 7)};
      default: return new int[0];
    }
  }

  /** Dust that is mostly so, else FLAT would nearly always be nobody. */
  private int[] dustArguments() {
    if (random.nextInt(6) == 0) return new int[] {-1, some(0, 6)};
    int beats = random.nextInt(41);
    if (random.nextInt(3) == 0) return new int[] {some(0, 40), some(0, 6)};
    return new int[] {beats, (int) plain.on(beats, 0)};
  }

  /** Bears that are mostly so, else LOOKED would nearly always be the first row. */
  private int[] bookArguments(int who) {
    if (random.nextInt(6) == 0) return new int[] {-1, some(0, 999)};
    long bears = plain.of(who, 6);
    if (bears < 0 || random.nextInt(4) == 0) return new int[] {who, some(0, 999)};
    return new int[] {who, (int) bears};
  }

  // ---- settings: mostly right ones, some with a sign changed, lost or added

  private boolean write() {
    StringBuilder text = new StringBuilder();
    int clauses = random.nextInt(20) == 0 ? 9 + random.nextInt(3) : 1 + random.nextInt(4);
    for (int c = 0; c < clauses; c++) {
      if (c > 0) text.append(';');
      clause(text, clauses > 8);
    }
    if (random.nextInt(3) == 0) spoil(text);
    int from = (int) plain.count(6);
    for (int i = 0; i < text.length() && from + i <= 100; i++) {
      if (!ask("feed", text.charAt(i))) return false;
    }
    return ask("setting");
  }

  private void spoil(StringBuilder text) {
    int at = random.nextInt(text.length());
    String signs = "ewld 019;|&!()<=>skvntb";
    switch (random.nextInt(4)) {
      case 0: text.setLength(at); break;
      case 1: text.deleteCharAt(at); break;
      case 2: text.setCharAt(at, signs.charAt(random.nextInt(signs.length()))); break;
      default: text.insert(at, signs.charAt(random.nextInt(signs.length())));
    }
  }

  private void clause(StringBuilder text, boolean brief) {
    int n = random.nextInt(4) == 0 ? random.nextInt(100) : random.nextInt(12);
    int way = random.nextInt(brief ? 2 : 6);
    if (way < 2) {
      text.append(way == 0 ? "ease " : "weary ").append(n);
      return;
    }
    text.append(way < 5 ? "loud " : "draught ").append(n).append(' ');
    either(text, 0);
  }

  private void either(StringBuilder text, int open) {
    both(text, open);
    while (random.nextInt(4) == 0 && text.length() < 60) {
      text.append('|');
      both(text, open);
    }
  }

  private void both(StringBuilder text, int open) {
    factor(text, open);
    while (random.nextInt(4) == 0 && text.length() < 60) {
      text.append('&');
      factor(text, open);
    }
  }

  private void factor(StringBuilder text, int open) {
    int way = random.nextInt(5);
    boolean may = open < 5 && text.length() < 70 || random.nextInt(60) == 0 && open < 7;
    if (way == 0 && may) {
      text.append('!');
      factor(text, open + 1);
    } else if (way == 1 && may) {
      text.append('(');
      either(text, open + 1);
      text.append(')');
    } else {
      text.append("skvntb".charAt(random.nextInt(6))).append("<=>".charAt(random.nextInt(3)));
      text.append(random.nextInt(random.nextInt(3) == 0 ? 25 : 8));
    }
  }
}
