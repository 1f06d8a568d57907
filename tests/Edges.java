import java.lang.reflect.Method;
import java.nio.file.Files;
import java.nio.file.Path;
import java.util.ArrayList;
import java.util.Arrays;
import java.util.Comparator;
import java.util.List;
import java.util.Map;
import java.util.TreeMap;
import java.util.function.Consumer;
import java.util.function.Supplier;
import java.util.function.ToIntFunction;

/**
 * Runs the tests of a class, one for each sentence that names a boundary case: every static method
 * with Says. Has what these tests share, too.
 */
final class Edges {
  static final int NONE = CountedTokens.NONE;
  static final int HOME = 6;
  static final int MIN = Integer.MIN_VALUE;
  static final int MAX = Integer.MAX_VALUE;

  // Objects are used for 512 calls at most; what is told ahead of the questions needs some of them.
  private static final int QUESTIONS_OF_ONE = 250;

  private static String section = "";
  private static String words = "";
  private static int asked = 0;
  private static int wrong = 0;

  private Edges() { }

  // ---- running

  /** The document's sections, each in one line; none where the document isn't at hand. */
  static Map<String, String> document() throws Exception {
    Map<String, StringBuilder> parts = new TreeMap<>();
    String at = "W";
    Path path = Path.of("../shared/DOC.md");
    if (!Files.isReadable(path)) return Map.of();
    for (String line : Files.readAllLines(path)) {
      if (line.startsWith("## Terms")) at = "T0";
      else if (line.startsWith("## Promise ")) at = "P" + line.substring(11, line.indexOf(':'));
      else if (line.startsWith("## ")) at = "W";
      if (line.startsWith("==== ")) at = "T" + line.charAt(5);
      parts.computeIfAbsent(at, k -> new StringBuilder()).append(line).append(' ');
    }
    Map<String, String> whole = new TreeMap<>();
    parts.forEach((k, v) -> whole.put(k, v.toString().replaceAll("\\s+", " ")));
    return whole;
  }

  static List<Method> testsOf(Class<?> tests) {
    List<Method> all = new ArrayList<>();
    for (Method m : tests.getDeclaredMethods()) if (m.isAnnotationPresent(Says.class)) all.add(m);
    all.sort(Comparator.comparing(Method::getName));
    return all;
  }

  static void run(Class<?> tests) throws Exception {
    Map<String, String> document = document();
    List<Method> all = testsOf(tests);
    int failed = 0;
    for (Method m : all) {
      Says says = m.getAnnotation(Says.class);
      section = says.in();
      words = m.getName() + " <" + says.value() + ">";
      int before = wrong;
      if (!document.isEmpty()) is("the document says so", document.getOrDefault(section, "").contains(says.value()), true);
      int had = asked;
      m.setAccessible(true);
      m.invoke(null);
      is("it asks something", asked > had, true);
      if (wrong > before) failed++;
    }
    System.out.println(tests.getSimpleName() + ": " + all.size() + " tests, " + failed + " failed; " + asked + " answers, " + wrong + " wrong");
    if (wrong != 0 || all.isEmpty()) System.exit(1);
  }

  // ---- comparing

  static void is(String call, int got, int due) {
    asked++;
    if (got != due) {
      wrong++;
      System.out.println(section + " " + words + ": " + call + " answered " + got + ", due is " + due);
    }
  }

  static void is(String call, boolean got, boolean due) { is(call, got ? 1 : 0, due ? 1 : 0); }

  /** COUNT, OWNER, VALID, DATA of a LINE at a NODE. */
  static void has(CountedTokens x, int node, int line, int... four) {
    for (int w = 0; w < 4; w++) is("node(" + node + ", " + line + ", " + w + ")", x.node(node, line, w), four[w]);
  }

  /** FROM, TO, KIND, LINE, how many, OWNER, DATA, SEQ, WHAT of a MESSAGE. */
  static void letter(CountedTokens x, int i, int... nine) {
    for (int w = 0; w < 9; w++) is("message(" + i + ", " + w + ")", x.message(i, w), nine[w]);
  }

  /** SEQ, ACTIVE, LINE, WHAT, MARKED of an entry. */
  static void entry(CountedTokens x, int node, int cpu, int... five) {
    for (int w = 0; w < 5; w++) is("table(" + node + ", " + cpu + ", " + w + ")", x.table(node, cpu, w), five[w]);
  }

  /** The KIND and TO of all MESSAGES as they lie, each as one number: 16 is KIND 1 to HOME. */
  static void row(CountedTokens x, int... kindAndTo) {
    is("look(6)", x.look(6), kindAndTo.length);
    for (int i = 0; i < kindAndTo.length && i < x.look(6); i++) {
      is("KIND and TO of message " + i, x.message(i, 2) * 10 + x.message(i, 1), kindAndTo[i]);
    }
  }

  /** The first so many LINES of THE TRACE, the latest first: what, CPU, LINE as one number. */
  static void traced(CountedTokens x, int... latest) {
    for (int i = 0; i < latest.length; i++) {
      is("trace(" + i + ")", x.trace(i, 1) * 100 + x.trace(i, 2) * 10 + x.trace(i, 3), latest[i]);
    }
  }

  // ---- playing

  static CountedTokens fresh() { return new CountedTokens(); }

  static CountedTokens fresh(int n, int t) {
    CountedTokens x = new CountedTokens();
    x.set(0, 2);
    x.set(1, t);
    x.set(0, n);
    return x;
  }

  static void quiet(CountedTokens x) { for (int i = 0; i < 2000 && x.look(6) > 0; i++) x.deliver(0); }

  /** A CPU has all TOKENS of a LINE, which holds v; nothing is on its way. */
  static void own(CountedTokens x, int cpu, int line, int v) {
    x.store(cpu, line, v);
    quiet(x);
  }

  /** A CPU has one TOKEN more of a LINE, by a LOAD (or had some already); nothing is on its way. */
  static void read(CountedTokens x, int cpu, int line) {
    x.load(cpu, line);
    quiet(x);
  }

  static int find(CountedTokens x, int from, int to, int kind) {
    for (int i = 0; i < x.look(6); i++) {
      if (x.message(i, 0) == from && x.message(i, 1) == to && x.message(i, 2) == kind) return i;
    }
    return NONE;
  }

  /** The first MESSAGE of that FROM, TO, KIND, which there must be, comes. */
  static void come(CountedTokens x, int from, int to, int kind) {
    int at = find(x, from, to, kind);
    is("there is a " + kind + " from " + from + " to " + to, at != NONE, true);
    x.deliver(at);
  }

  /** All MESSAGES of a KIND that are on their way now come; not those that they cause. */
  static void allOf(CountedTokens x, int kind) {
    int left = 0;
    for (int i = 0; i < x.look(6); i++) if (x.message(i, 2) == kind) left++;
    for (int i = 0; left > 0;) {
      if (x.message(i, 2) == kind) {
        x.deliver(i);
        left--;
      } else {
        i++;
      }
    }
  }

  /** A CPU that has a MISS asks for good: PATIENCE is 1, and so are the TICKS of each asking. */
  static void forGood(CountedTokens x) {
    x.set(4, 1);
    x.tick(3);
  }

  /** TICK is so many, by as few calls as can be. */
  static CountedTokens at(int tick) {
    CountedTokens x = fresh();
    for (int left = tick; left > 0; left -= Math.min(left, 99)) x.tick(Math.min(left, 99));
    return x;
  }

  // ---- nothing changes

  private static List<ToIntFunction<CountedTokens>> questions() {
    List<ToIntFunction<CountedTokens>> q = new ArrayList<>();
    add(q, 1, 19, (x, a, b) -> x.look(b));
    add(q, 7 * 8, 7, (x, a, b) -> x.node(a / 8, a % 8, b));
    add(q, 6, 6, CountedTokens::miss);
    add(q, 7 * 6, 5, (x, a, b) -> x.table(a / 6, a % 6, b));
    add(q, 30, 9, CountedTokens::message);
    add(q, 6, 62, (x, a, b) -> x.seen(a, b - 1));
    add(q, 6, 3, CountedTokens::program);
    add(q, 8, 7, CountedTokens::where);
    add(q, 6, 5, CountedTokens::cost);
    add(q, 6, 8, CountedTokens::group);
    add(q, 30, 4, CountedTokens::trace);
    add(q, 49, 3, (x, a, b) -> x.flow(a / 7, a % 7, b));
    add(q, 6, 8, CountedTokens::can);
    add(q, 1, 8, (x, a, b) -> x.worth(b));
    add(q, 1, 2, (x, a, b) -> x.fault(b));
    add(q, 1, 6, (x, a, b) -> x.soon(b));
    add(q, 1, 5, (x, a, b) -> x.walk(b));
    // how many bytes the TAPE has, if it is not too full for more
    q.add(x -> x.feed(0, 0, 0, 0, 0));
    return q;
  }

  private interface Question { int of(CountedTokens x, int a, int b); }

  private static void add(List<ToIntFunction<CountedTokens>> q, int as, int bs, Question one) {
    for (int i = 0; i < as * bs; i++) {
      int a = i / bs;
      int b = i % bs;
      q.add(x -> one.of(x, a, b));
    }
  }

  /** All that can be asked of an object; each is made anew for some of the questions. */
  static int[] answers(Supplier<CountedTokens> maker) {
    List<ToIntFunction<CountedTokens>> q = questions();
    int[] all = new int[q.size()];
    CountedTokens x = null;
    for (int i = 0; i < all.length; i++) {
      if (i % QUESTIONS_OF_ONE == 0) x = maker.get();
      all[i] = q.get(i).applyAsInt(x);
    }
    return all;
  }

  /** After these calls, which are refused, all is as it was ahead of them. */
  static void unchanged(Supplier<CountedTokens> maker, Consumer<CountedTokens> refused) {
    int[] before = answers(maker);
    int[] after = answers(() -> {
      CountedTokens x = maker.get();
      refused.accept(x);
      return x;
    });
    is("all is as it was", Arrays.equals(before, after), true);
  }

  /** Something of everything: TOKENS here and there, MISSES, MESSAGES, texts, a TAPE. */
  static CountedTokens busy() {
    CountedTokens x = fresh();
    x.state(12345);
    own(x, 1, 2, 77);
    read(x, 0, 2);
    read(x, 0, 3);
    x.set(4, 2);
    x.add(2, 2, 5);
    x.load(0, 5);
    x.tick(6);
    Due.text(x, 0, "load 1; rest 4; store 2 5;");
    Due.text(x, 6, "tick 1; 1 load 2; deliver 3;");
    x.run(1);
    Due.text(x, 1, "load 9;");
    Due.feed(x, "load 1; lo");
    return x;
  }
}
