import java.util.Random;

/** Random calls, the same for the class and for the plain Model: every answer must be the same. */
public final class ModelTest {
  private static int wrong = 0;
  private static long compared = 0;

  private final Random random;
  private final long seed;
  private final CountedTokens x = new CountedTokens();
  private final Model y = new Model();
  private int calls = 0;
  private final int walkEvery;

  private ModelTest(long seed) {
    this.seed = seed;
    this.random = new Random(seed);
    this.walkEvery = 6 + random.nextInt(30);
  }

  private void same(String call, int got, int due) {
    compared++;
    if (got != due) {
      wrong++;
      if (wrong < 30) System.out.println("seed " + seed + ", call " + calls + ": " + call + " answered " + got + ", the model " + due);
    }
  }

  private void same(String call, boolean got, boolean due) { same(call, got ? 1 : 0, due ? 1 : 0); }

  private int r(int n) { return random.nextInt(n); }

  /** Mostly 0 .. n less 1, at times an edge or far beyond it. */
  private int near(int n) {
    int k = r(40);
    if (k == 0) return -1;
    if (k == 1) return n;
    if (k == 2) return new int[] {Integer.MIN_VALUE, Integer.MAX_VALUE, -2, n + 1}[r(4)];
    return r(n);
  }

  private int cpu() { return r(30) == 0 ? near(7) : r(x.look(0)); }
  private int line(int spread) { return r(40) == 0 ? near(8) : r(spread); }
  private int v() { return r(20) == 0 ? new int[] {-1, 10000, 9999, 0}[r(4)] : r(100) + 9900 * r(2); }

  // ---- texts

  private String blank() { return r(6) == 0 ? "\n" : r(3) == 0 ? "  " : " "; }

  private String statements(int deep) {
    StringBuilder s = new StringBuilder();
    int many = r(5) + (deep == 0 ? 1 : 0);
    for (int i = 0; i < many; i++) {
      int k = r(10);
      if (k < 3) s.append("load ").append(r(4));
      else if (k < 5) s.append("store").append(blank()).append(r(4)).append(blank()).append(r(10000));
      else if (k < 7) s.append("add ").append(r(4)).append(" ").append(r(300));
      else if (k == 7) s.append("rest ").append(1 + r(9));
      else if (deep < 3 || r(4) == 0) { s.append("again ").append(1 + r(4)).append("{").append(statements(deep + 1)).append("}").append(blank()); continue; }
      else s.append("load ").append(r(8));
      s.append(r(4) == 0 ? " ;" : ";").append(r(2) == 0 ? "" : blank());
    }
    return s.toString();
  }

  private String plan() {
    StringBuilder s = new StringBuilder();
    int many = r(6) == 0 ? 20 + r(7) : r(12);
    for (int i = 0; i < many; i++) {
      int k = r(14);
      if (k < 3) s.append(r(4)).append(" load ").append(r(4));
      else if (k < 5) s.append(r(4)).append("store ").append(r(4)).append(' ').append(r(10000));
      else if (k < 6) s.append(r(6)).append(" add ").append(r(4)).append(blank()).append(r(10000));
      else if (k < 7) s.append(r(3)).append(" evict ").append(r(4));
      else if (k < 9) s.append("deliver ").append(1 + r(5));
      else if (k < 10) s.append("last ").append(1 + r(5));
      else if (k < 11) s.append("tick ").append(1 + r(9));
      else if (k < 12) s.append("calm ").append(1 + r(3));
      else if (k < 13) s.append("go ").append(1 + r(5)).append(' ').append(r(3));
      else s.append("policy ").append(r(4));
      s.append(";").append(r(2) == 0 ? "" : blank());
    }
    return s.toString();
  }

  /** A sign or two changed, or a piece taken out. */
  private String spoil(String s) {
    if (s.isEmpty()) return s;
    int at = r(s.length());
    String[] odd = {"9", "0", ";", "{", "}", "again 2 {", "12345", "x", "Load", " ", "\t", "\u00e9", "10000", "go", "rest 0", "again", "60", "7"};
    switch (r(3)) {
      case 0: return s.substring(0, at) + odd[r(odd.length)] + s.substring(at);
      case 1: return s.substring(0, at) + s.substring(Math.min(s.length(), at + 1 + r(3)));
      default: return s.substring(0, at);
    }
  }

  private void tell(String s, int k) {
    if (s.length() > 400) s = s.substring(0, 400);
    int at = 0;
    while (at < s.length()) {
      int[] five = new int[5];
      for (int i = 0; i < 20; i++) five[i / 4] |= (at + i < s.length() ? s.charAt(at + i) & 255 : 32) << 24 - 8 * (i % 4);
      same("feed", x.feed(five[0], five[1], five[2], five[3], five[4]), y.feed(five));
      at += 20;
    }
    if (r(20) == 0) same("feed", x.feed(1, 2, 3, 4, 5), y.feed(1, 2, 3, 4, 5));
    if (r(30) == 0) same("end", x.end(-1), y.end(-1));
    same("end", x.end(s.length()), y.end(s.length()));
    if (r(30) == 0) same("end", x.end(s.length() + 1), y.end(s.length() + 1));
    same("text(" + k + ") of <" + s + ">", x.text(k), y.text(k));
    for (int w = -1; w < 3; w++) same("fault(" + w + ") of <" + s + ">", x.fault(w), y.fault(w));
  }

  // ---- calls that change something

  private void change(int kind, int spread) {
    int c = cpu(), l = line(spread), v = v(), n, o;
    calls++;
    switch (kind) {
      case 0: same("load", x.load(c, l), y.load(c, l)); break;
      case 1: same("store", x.store(c, l, v), y.store(c, l, v)); break;
      case 2: same("add", x.add(c, l, v), y.add(c, l, v)); break;
      case 3: same("evict", x.evict(c, l), y.evict(c, l)); break;
      case 4: n = near(Math.max(1, x.look(6))); same("deliver " + n, x.deliver(n), y.deliver(n)); break;
      case 5: n = x.look(6) - 1; same("deliver last", x.deliver(n), y.deliver(n)); break;
      case 6: n = 1 + r(4); same("tick", x.tick(n), y.tick(n)); break;
      case 7: n = r(5) == 0 ? near(62) : 1 + r(3); same("calm", x.calm(n), y.calm(n)); break;
      case 8: n = r(8) == 0 ? near(62) : 1 + r(8); o = near(3); same("go", x.go(n, o), y.go(n, o)); break;
      case 9: n = near(5); v = near(n == 4 ? 21 : 13); same("set", x.set(n, v), y.set(n, v)); break;
      case 10: n = r(7) == 0 ? near(7) : r(4); tell(r(4) == 0 ? spoil(statements(0)) : statements(0), n); break;
      case 11: tell(r(4) == 0 ? spoil(plan()) : plan(), 6); break;
      case 12: n = r(5) == 0 ? near(26) : 1 + r(6); same("run", x.run(n), y.run(n)); break;
      case 13: v = random.nextInt(); same("state", x.state(v), y.state(v)); break;
      case 14: same("image", x.image(true), y.image(true)); break;
      case 15: same("image", x.image(false), y.image(false)); break;
      case 16: n = r(30) == 0 ? near(100) : 1 + r(99); same("tick", x.tick(n), y.tick(n)); break;
      default: n = 2 + r(5); same("set", x.set(0, n), y.set(0, n)); n = n + r(13 - n); same("set", x.set(1, n), y.set(1, n)); break;
    }
  }

  // ---- calls that only ask

  private void askSome() {
    int c = near(7), d = near(7), l = near(8), w = near(9), i = near(Math.max(1, x.look(6)));
    switch (r(17)) {
      case 0: same("node", x.node(c, l, w), y.node(c, l, w)); break;
      case 1: same("miss", x.miss(c, w), y.miss(c, w)); break;
      case 2: same("table", x.table(c, d, w), y.table(c, d, w)); break;
      case 3: same("message", x.message(i, w), y.message(i, w)); break;
      case 4: i = near(61); same("seen", x.seen(c, i), y.seen(c, i)); break;
      case 5: same("program", x.program(c, w), y.program(c, w)); break;
      case 6: same("soon", x.soon(c), y.soon(c)); break;
      case 7: same("where", x.where(l, w), y.where(l, w)); break;
      case 8: same("cost", x.cost(c, w), y.cost(c, w)); break;
      case 9: same("group", x.group(c, l), y.group(c, l)); break;
      case 10: i = near(101); same("trace", x.trace(i, w), y.trace(i, w)); break;
      case 11: w = near(3); same("flow", x.flow(c, d, w), y.flow(c, d, w)); break;
      case 12: same("can", x.can(c, l), y.can(c, l)); break;
      case 13: same("worth", x.worth(l), y.worth(l)); break;
      default: w = near(19); same("look", x.look(w), y.look(w)); break;
    }
  }

  private void walk() {
    for (int w = -1; w < 6; w++) if (w <= 0 || r(2) == 0) same("walk(" + w + ")", x.walk(w), y.walk(w));
  }

  private void askAll() {
    for (int c = -1; c < 8; c++) {
      for (int l = -1; l < 9; l++) {
        for (int w = -1; w < 8; w++) {
          same("node(" + c + ", " + l + ", " + w + ")", x.node(c, l, w), y.node(c, l, w));
          same("table(" + c + ", " + l + ", " + w + ")", x.table(c, l, w), y.table(c, l, w));
          same("flow(" + c + ", " + l + ", " + w + ")", x.flow(c, l, w), y.flow(c, l, w));
        }
        same("group(" + c + ", " + l + ")", x.group(c, l), y.group(c, l));
        same("can(" + c + ", " + l + ")", x.can(c, l), y.can(c, l));
        same("where(" + l + ", " + c + ")", x.where(l, c), y.where(l, c));
      }
      for (int w = -1; w < 7; w++) {
        same("miss(" + c + ", " + w + ")", x.miss(c, w), y.miss(c, w));
        same("cost(" + c + ", " + w + ")", x.cost(c, w), y.cost(c, w));
        same("program(" + c + ", " + w + ")", x.program(c, w), y.program(c, w));
      }
      same("worth(" + c + ")", x.worth(c), y.worth(c));
      same("soon(" + c + ")", x.soon(c), y.soon(c));
      for (int i = -1; i < 62; i++) same("seen(" + c + ", " + i + ")", x.seen(c, i), y.seen(c, i));
    }
    for (int w = -1; w < 20; w++) same("look(" + w + ")", x.look(w), y.look(w));
    for (int i = -1; i <= x.look(6); i++) for (int w = -1; w < 10; w++) same("message(" + i + ", " + w + ")", x.message(i, w), y.message(i, w));
    for (int i = -1; i < 102; i++) for (int w = -1; w < 5; w++) same("trace(" + i + ", " + w + ")", x.trace(i, w), y.trace(i, w));
  }

  // How often which change comes, in several tempers; the columns are the cases of change().
  private static final int[][] TEMPERS = {
    //0  1  2  3  4  5  6  7  8  9 10 11 12 13 14 15 16 17
    {10, 8, 5, 3, 40, 8, 12, 1, 0, 1, 0, 0, 0, 0, 1, 1, 0, 1},
    {6, 6, 6, 1, 10, 20, 20, 0, 0, 0, 0, 0, 0, 0, 0, 0, 0, 0},
    {2, 2, 2, 1, 3, 1, 2, 2, 20, 1, 8, 3, 8, 1, 1, 1, 0, 1},
    {4, 8, 8, 2, 20, 2, 30, 2, 3, 0, 1, 0, 0, 1, 0, 0, 0, 0},
    {2, 2, 2, 2, 4, 2, 4, 4, 4, 2, 20, 20, 20, 2, 2, 2, 1, 2},
    {3, 5, 5, 2, 30, 10, 3, 1, 2, 0, 0, 0, 0, 0, 0, 0, 0, 0},
    {5, 5, 5, 3, 8, 2, 3, 6, 3, 3, 1, 1, 1, 1, 3, 3, 30, 3},
  };

  private void live(int steps) {
    int[] temper = TEMPERS[r(TEMPERS.length)];
    int spread = 1 + r(8);
    int sum = 0;
    for (int w : temper) sum += w;
    if (r(3) > 0) {
      change(17, spread);
      int[][] told = {{2, 1 + r(8)}, {3, r(4)}, {4, 1 + r(r(2) == 0 ? 3 : 20)}};
      for (int[] one : told) same("set", x.set(one[0], one[1]), y.set(one[0], one[1]));
    }
    for (int i = 0; i < steps; i++) {
      int k = r(sum), kind = 0;
      while (k >= temper[kind]) k -= temper[kind++];
      change(kind, spread);
      for (int q = r(4); q > 0; q--) askSome();
      if (i % walkEvery == 0) walk();
      if (i % 67 == 66) askAll();
      if (wrong > 0) return;
    }
    askAll();
  }

  public static void main(String[] args) {
    long from = args.length > 0 ? Long.parseLong(args[0]) : 1;
    long lives = args.length > 1 ? Long.parseLong(args[1]) : 150;
    for (long seed = from; seed < from + lives && wrong == 0; seed++) new ModelTest(seed).live(300);
    System.out.println("ModelTest: " + compared + " answers compared, " + wrong + " unlike");
    if (wrong != 0) System.exit(1);
  }
}
