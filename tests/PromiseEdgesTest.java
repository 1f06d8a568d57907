import java.util.Arrays;
import java.util.TreeSet;

/** The boundary cases that the promises 1 to 33 name, each by itself; the Terms have tests of their own. */
public final class PromiseEdgesTest {
  private static final int NONE = Edges.NONE;
  private static final int HOME = Edges.HOME;
  private static final int MIN = Edges.MIN;
  private static final int MAX = Edges.MAX;
  // For what is never 0 .. 99.
  private static final int[] FAR = {MIN, MIN + 1, -65536, -256, -2, -1, 100, 255, 256, 65535, 65536, MAX - 1, MAX};

  private static void is(String call, int got, int due) { Edges.is(call, got, due); }
  private static void is(String call, boolean got, boolean due) { Edges.is(call, got, due); }
  private static void has(CountedTokens x, int node, int line, int... four) { Edges.has(x, node, line, four); }
  private static void row(CountedTokens x, int... kindAndTo) { Edges.row(x, kindAndTo); }
  private static void come(CountedTokens x, int from, int to, int kind) { Edges.come(x, from, to, kind); }
  private static CountedTokens fresh() { return Edges.fresh(); }
  private static CountedTokens fresh(int n, int t) { return Edges.fresh(n, t); }
  private static void own(CountedTokens x, int cpu, int line, int v) { Edges.own(x, cpu, line, v); }
  private static void read(CountedTokens x, int cpu, int line) { Edges.read(x, cpu, line); }
  private static void quiet(CountedTokens x) { Edges.quiet(x); }

  private interface One { int of(int a); }

  /** Of all numbers that are far, and these, the answer is the same. */
  private static void refused(String call, One one, int due, int... more) {
    for (int a : FAR) is(call + " of " + a, one.of(a), due);
    for (int a : more) is(call + " of " + a, one.of(a), due);
  }

  private static int as(boolean b) { return b ? 1 : 0; }

  // ---- telling

  @Says(in = "P1", value = "Three CPUS, eight TOKENS, all at HOME.")
  static void p01_newObject() {
    CountedTokens x = fresh();
    is("n", x.look(0), 3);
    is("t", x.look(1), 8);
    for (int l = 0; l < 8; l++) {
      has(x, HOME, l, 8, 1, 1, 0);
      for (int c = 0; c < 3; c++) has(x, c, l, 0, 0, 0, NONE);
    }
    for (int w = 5; w < 19; w++) is("look(" + w + ")", x.look(w), 0);
    // another object is another
    x.tick(5);
    x.load(0, 0);
    CountedTokens y = fresh();
    is("TICK", y.look(5), 0);
    is("MESSAGES", y.look(6), 0);
  }

  @Says(in = "P2", value = "STATE is told: what it was.")
  static void p02_state() {
    CountedTokens x = fresh();
    int was = 0;
    for (int v : new int[] {1, -1, MAX, MIN, 0, 7, 7}) {
      is("state(" + v + ")", x.state(v), was);
      is("look(14)", x.look(14), v);
      was = v;
    }
  }

  @Says(in = "P3", value = "What 0 n, 1 t, 2 ROOM, 3 POLICY, 4 PATIENCE: true; false if one can't be")
  static void p03_bounds() {
    int[][] bounds = {{2, 6}, {3, 12}, {1, 8}, {0, 3}, {1, 20}};
    for (int what = 0; what < 5; what++) {
      int low = bounds[what][0];
      int high = bounds[what][1];
      CountedTokens x = fresh();
      for (int v = low; v <= high; v++) {
        is("set(" + what + ", " + v + ")", x.set(what, v), true);
        is("look(" + what + ")", x.look(what), v);
      }
      int w = what;
      refused("set(" + what + ", .)", v -> as(x.set(w, v)), 0, low - 1, high + 1);
      is("look(" + what + ")", x.look(what), high);
      for (int other = 0; other < 5; other++) {
        if (other != what) is("look(" + other + ")", x.look(other), fresh().look(other));
      }
    }
  }

  @Says(in = "P3", value = "(t below n, n above t, too)")
  static void p03_tokensForAll() {
    CountedTokens x = fresh();
    is("t 3", x.set(1, 3), true);
    is("n 4 above t", x.set(0, 4), false);
    is("n", x.look(0), 3);
    is("n 3 is t", x.set(0, 3), true);
    is("t 2 below n", x.set(1, 2), false);
    is("t", x.look(1), 3);
    is("n 2", x.set(0, 2), true);
    is("t 2 is n", x.set(1, 2), true);
    is("t 1", x.set(1, 1), false);
    is("n 3 above t", x.set(0, 3), false);
    is("t 6", x.set(1, 6), true);
    is("n 6", x.set(0, 6), true);
    is("t 5", x.set(1, 5), false);
    for (int l = 0; l < 8; l++) has(x, HOME, l, 6, 1, 1, 0);
  }

  @Says(in = "P3", value = "or another what")
  static void p03_anotherWhat() {
    CountedTokens x = fresh();
    for (int v : new int[] {0, 1, 3, 5, 8}) {
      int one = v;
      refused("set(., " + v + ")", w -> as(x.set(w, one)), 0, 5, 6, 7);
    }
    Edges.unchanged(Edges::busy, y -> {
      for (int w = 0; w < 7; w++) for (int v : FAR) y.set(w, v);
      y.set(0, 3);
      y.set(1, 8);
      y.set(5, 1);
    });
  }

  @Says(in = "P3", value = "(Less ROOM evicts nothing.)")
  static void p03_lessRoom() {
    CountedTokens x = fresh();
    for (int l = 0; l < 4; l++) own(x, 0, l, l);
    x.set(2, 1);
    is("EVICTIONS", x.look(11), 0);
    is("MESSAGES", x.look(6), 0);
    for (int l = 0; l < 4; l++) has(x, 0, l, 8, 1, 1, l);
    // nor do HITS, nor more of what it has
    x.load(0, 0);
    read(x, 1, 2);
    own(x, 0, 2, 5);
    is("EVICTIONS", x.look(11), 0);
    for (int l = 0; l < 4; l++) is("COUNT", x.node(0, l, 0), 8);
  }

  // ---- LOAD, STORE, ADD, EVICT

  @Says(in = "P4", value = "LOAD: the value; NONE: a MISS")
  static void p04_theValue() {
    CountedTokens x = fresh();
    is("a MISS", x.load(0, 0), NONE);
    quiet(x);
    is("0", x.load(0, 0), 0);
    own(x, 2, 7, 9999);
    is("9999", x.load(2, 7), 9999);
  }

  @Says(in = "P4", value = "NONE - 1 if it can't be (it has a MISS, too)")
  static void p04_refused() {
    CountedTokens x = fresh();
    refused("load(., 0)", c -> x.load(c, 0), NONE - 1, 3, 4, 5, 6, 7);
    refused("load(0, .)", l -> x.load(0, l), NONE - 1, 8, 9);
    is("no MISS", x.look(15), 0);
    is("MESSAGES", x.look(6), 0);
    x.load(0, 0);
    is("the same LINE", x.load(0, 0), NONE - 1);
    is("another", x.load(0, 1), NONE - 1);
    is("its MISS", x.miss(0, 0), 0);
    is("MESSAGES", x.look(6), 3);
    Edges.unchanged(Edges::busy, y -> {
      y.load(0, 2);
      y.load(2, 1);
      y.load(3, 0);
      y.load(-1, 0);
      y.load(1, 8);
      y.load(1, -1);
    });
  }

  @Says(in = "P5", value = "STORE v (0 .. 9999): 1 a HIT, 0 a MISS; NONE if it can't be.")
  static void p05_store() {
    CountedTokens x = fresh();
    refused("store(., 0, 0)", c -> x.store(c, 0, 0), NONE, 3, 4, 5, 6, 7);
    refused("store(0, ., 0)", l -> x.store(0, l, 0), NONE, 8, 9);
    for (int v : new int[] {MIN, -1, 10000, MAX}) is("store(0, 0, " + v + ")", x.store(0, 0, v), NONE);
    is("no MISS", x.look(15), 0);
    is("a MISS", x.store(0, 0, 9999), 0);
    is("it has a MISS", x.store(0, 0, 9999), NONE);
    quiet(x);
    is("DATA", x.worth(0), 9999);
    is("a HIT", x.store(0, 0, 0), 1);
    is("DATA", x.worth(0), 0);
    for (int v : new int[] {MIN, -1, 10000, MAX}) is("what would be a HIT", x.store(0, 0, v), NONE);
    is("HITS", x.look(8), 1);
    Edges.unchanged(Edges::busy, y -> {
      y.store(0, 2, 1);
      y.store(2, 1, 1);
      y.store(3, 0, 1);
      y.store(1, 8, 1);
      y.store(1, 2, 10000);
      y.store(1, 2, -1);
    });
  }

  @Says(in = "P6", value = "ADD v (0 .. 9999): 1 a HIT, 0 a MISS; NONE if it can't be.")
  static void p06_add() {
    CountedTokens x = fresh();
    refused("add(., 0, 0)", c -> x.add(c, 0, 0), NONE, 3, 4, 5, 6, 7);
    refused("add(0, ., 0)", l -> x.add(0, l, 0), NONE, 8, 9);
    for (int v : new int[] {MIN, -1, 10000, MAX}) is("add(0, 0, " + v + ")", x.add(0, 0, v), NONE);
    is("no MISS", x.look(15), 0);
    is("a MISS", x.add(0, 0, 9999), 0);
    is("it has a MISS", x.add(0, 0, 1), NONE);
    quiet(x);
    is("DATA", x.worth(0), 9999);
    is("a HIT", x.add(0, 0, 0), 1);
    is("DATA", x.worth(0), 9999);
    for (int v : new int[] {MIN, -1, 10000, MAX}) is("what would be a HIT", x.add(0, 0, v), NONE);
    is("SEEN", x.seen(0, NONE), 2);
    Edges.unchanged(Edges::busy, y -> {
      y.add(0, 2, 1);
      y.add(2, 1, 1);
      y.add(3, 0, 1);
      y.add(1, 8, 1);
      y.add(1, 2, 10000);
      y.add(1, 2, -1);
    });
  }

  @Says(in = "P7", value = "EVICT a LINE that a CPU HAS, not that of its MISS: true; false if it can't be.")
  static void p07_evict() {
    CountedTokens x = fresh();
    is("it has none", x.evict(0, 0), false);
    read(x, 0, 0);
    own(x, 0, 7, 5);
    refused("evict(., 0)", c -> as(x.evict(c, 0)), 0, 1, 2, 3, 4, 5, 6, 7);
    refused("evict(0, .)", l -> as(x.evict(0, l)), 0, 1, 6, 8, 9);
    // that of its MISS
    x.store(0, 0, 5);
    is("some TOKENS of it", x.node(0, 0, 0), 1);
    is("of its MISS", x.evict(0, 0), false);
    is("another", x.evict(0, 7), true);
    is("EVICTIONS", x.look(11), 1);
    quiet(x);
    is("its MISS is over", x.evict(0, 0), true);
    is("no more", x.evict(0, 0), false);
    Edges.unchanged(Edges::busy, y -> {
      y.evict(0, 0);
      y.evict(0, 5);
      y.evict(2, 2);
      y.evict(6, 0);
      y.evict(3, 2);
      y.evict(1, 8);
      y.evict(1, -1);
    });
  }

  // ---- MESSAGES and TICKS

  @Says(in = "P8", value = "The k-th MESSAGE (from 0) is delivered: its KIND; NONE if there is none such.")
  static void p08_deliver() {
    CountedTokens x = fresh();
    refused("deliver of none", k -> x.deliver(k), NONE, 0, 1);
    x.load(0, 0);
    refused("deliver", k -> x.deliver(k), NONE, 3, 4);
    is("the last", x.deliver(2), 1);
    is("TOKENS", x.deliver(2), 3);
    is("the first", x.deliver(0), 1);
    is("the only one", x.deliver(0), 1);
    is("none", x.deliver(0), NONE);
    x.store(1, 0, 5);
    is("KIND 2", x.deliver(0), 2);
    Edges.forGood(x);
    is("KIND 4", x.deliver(Edges.find(x, 1, HOME, 4)), 4);
    quiet(x);
    is("none", x.deliver(0), NONE);
    CountedTokens z = fresh();
    z.store(0, 0, 5);
    Edges.forGood(z);
    come(z, 0, HOME, 4);
    come(z, HOME, 0, 3);
    is("KIND 5", z.deliver(z.look(6) - 1), 5);
    Edges.unchanged(Edges::busy, y -> {
      y.deliver(-1);
      y.deliver(y.look(6));
      y.deliver(MAX);
      y.deliver(MIN);
    });
  }

  @Says(in = "P9", value = "n (1 .. 99) TICKS: TICK; NONE, and nothing is done, if one can't be, or it would be above 9999.")
  static void p09_tick() {
    CountedTokens x = fresh();
    refused("tick", n -> x.tick(n), NONE, 0);
    is("TICK", x.look(5), 0);
    is("tick(1)", x.tick(1), 1);
    is("tick(99)", x.tick(99), 100);
    CountedTokens y = Edges.at(9900);
    is("9999", y.tick(99), 9999);
    is("above", y.tick(1), NONE);
    is("above", y.tick(99), NONE);
    is("TICK", y.look(5), 9999);
    y = Edges.at(9901);
    is("10000", y.tick(99), NONE);
    is("TICK", y.look(5), 9901);
    is("98", y.tick(98), 9999);
    // nothing is done
    Edges.unchanged(Edges::busy, z -> {
      for (int n : FAR) z.tick(n);
      z.tick(0);
    });
    Edges.unchanged(PromiseEdgesTest::late, z -> z.tick(6));
  }

  /** TICK is 9994, and somebody has a MISS, a PROGRAM, a PLAN. */
  private static CountedTokens late() {
    CountedTokens x = Edges.at(9994);
    x.set(4, 1);
    x.store(0, 0, 5);
    Due.text(x, 1, "load 2; load 3;");
    return x;
  }

  @Says(in = "P10", value = "CALM n (1 .. 60): how many were delivered; NONE, and nothing is done, if one can't be, or TICK would be above 9999.")
  static void p10_calm() {
    CountedTokens x = fresh();
    refused("calm", n -> x.calm(n), NONE, 0, 61, 99);
    is("TICK", x.look(5), 0);
    is("calm(1)", x.calm(1), 0);
    is("calm(60)", x.calm(60), 0);
    is("TICK", x.look(5), 61);
    x.load(0, 0);
    is("calm(60)", x.calm(60), 4);
    CountedTokens y = Edges.at(9939);
    is("9999", y.calm(60), 0);
    is("TICK", y.look(5), 9999);
    is("above", y.calm(1), NONE);
    y = Edges.at(9940);
    is("10000", y.calm(60), NONE);
    is("TICK", y.look(5), 9940);
    is("59", y.calm(59), 0);
    Edges.unchanged(Edges::busy, z -> {
      for (int n : FAR) z.calm(n);
      z.calm(0);
      z.calm(61);
    });
    Edges.unchanged(PromiseEdgesTest::late, z -> z.calm(6));
  }

  // ---- the TAPE and texts

  @Says(in = "P11", value = "Twenty bytes come behind the TAPE, of each number the highest first: how many it has.")
  static void p11_feed() {
    CountedTokens x = fresh();
    // "load 1; load 2; rest"
    is("feed", x.feed(0x6c6f6164, 0x20313b20, 0x6c6f6164, 0x20323b20, 0x72657374), 20);
    is("feed", x.feed(0x20393b20, 0x20202020, 0x20202020, 0x20202020, 0x20202020), 40);
    is("text", x.text(0), 3);
    // the highest byte of a number can be above 127
    x.feed(0xff202020, 0, 0, 0, 0);
    is("text", x.text(0), NONE);
    is("its place", x.fault(1), 0);
    x.feed(0x202020ff, 0, 0, 0, 0);
    is("text", x.text(0), NONE);
    is("its place", x.fault(1), 3);
    x.feed(0x20202020, 0x20202020, 0x20202020, 0x20202020, 0x2020203b);
    is("text", x.text(0), NONE);
    is("its place", x.fault(1), 19);
  }

  @Says(in = "P11", value = "NONE, and nothing comes, if there would be more than 400.")
  static void p11_full() {
    CountedTokens x = fresh();
    for (int i = 1; i <= 20; i++) is("feed", x.feed(0x20202020, 0x20202020, 0x20202020, 0x20202020, 0x20202020), 20 * i);
    is("400 and 20", x.feed(0, 0, 0, 0, 0), NONE);
    is("400 there are", x.end(400), true);
    is("text", x.text(0), 0);
    is("empty then", x.feed(0, 0, 0, 0, 0), 20);
    for (int cut = 399; cut >= 381; cut--) {
      CountedTokens y = fresh();
      for (int i = 0; i < 20; i++) y.feed(0x20202020, 0x20202020, 0x20202020, 0x20202020, 0x20202020);
      y.end(cut);
      is(cut + " and 20", y.feed(0, 0, 0, 0, 0), NONE);
      is("nothing comes", y.end(cut + 1), false);
      is("what there was", y.text(0), 0);
    }
    CountedTokens z = fresh();
    for (int i = 0; i < 20; i++) z.feed(0x20202020, 0x20202020, 0x20202020, 0x20202020, 0x20202020);
    z.end(380);
    is("380 and 20", z.feed(0x20202020, 0x20202020, 0x20202020, 0x20202020, 0x2020203b), 400);
    is("text", z.text(0), NONE);
    is("the last byte", z.fault(1), 399);
  }

  @Says(in = "P12", value = "The TAPE has its first n bytes alone: true; false, changing nothing, if it has not so many, or n is below 0.")
  static void p12_end() {
    CountedTokens x = fresh();
    is("empty", x.end(0), true);
    is("it has none", x.end(1), false);
    refused("end", n -> as(x.end(n)), 0);
    x.feed(0x6c6f6164, 0x20313b20, 0x3b3b3b3b, 0x3b3b3b3b, 0x3b3b3b3b);
    is("21 of 20", x.end(21), false);
    is("20 of 20", x.end(20), true);
    for (int n : new int[] {MIN, -1, 21, 400, MAX}) is("end(" + n + ")", x.end(n), false);
    is("nothing changed", x.end(20), true);
    is("8", x.end(8), true);
    is("9 of 8", x.end(9), false);
    is("behind it", x.feed(0x6c6f6164, 0x20323b20, 0, 0, 0), 28);
    is("16", x.end(16), true);
    is("text", x.text(0), 2);
    is("0 of 0", x.end(0), true);
  }

  @Says(in = "P13", value = "The TAPE, empty then (whatever k, with a FAULT, too)")
  static void p13_emptyThen() {
    CountedTokens x = fresh();
    for (int k = -2; k < 9; k++) {
      Due.feed(x, "load 1;");
      x.text(k);
      is("empty behind text(" + k + ")", x.end(1), false);
      Due.feed(x, "?");
      x.text(k);
      is("empty behind a FAULT of text(" + k + ")", x.end(1), false);
    }
    for (int k : new int[] {MIN, MAX}) {
      Due.feed(x, "load 1;");
      x.text(k);
      is("empty behind text(" + k + ")", x.end(1), false);
    }
  }

  @Says(in = "P13", value = "is the PROGRAM of CPU k (0 .. 5, there or not): how many ACTS; THE PLAN (6), at its beginning: how many lines.")
  static void p13_told() {
    CountedTokens x = fresh();
    for (int k = 0; k < 6; k++) {
      is("text(" + k + ")", Due.text(x, k, "again 9 { load 1; }" + "load 1;".repeat(k)), 9 + k);
      for (int other = 0; other < 6; other++) is("program(" + other + ", 0)", x.program(other, 0), other <= k ? 9 + other : 0);
    }
    is("text(6)", Due.text(x, 6, "tick 1; tick 1;"), 2);
    x.run(1);
    is("text(6)", Due.text(x, 6, "tick 1; tick 1; tick 1;"), 3);
    is("lines", x.look(16), 3);
    is("at its beginning", x.look(17), 0);
    is("of none", x.text(6), 0);
    is("of none", x.text(0), 0);
    is("lines", x.look(16), 0);
    is("ACTS", x.program(0, 0), 0);
  }

  @Says(in = "P13", value = "NONE: no such one (fault() tells 0)")
  static void p13_noSuchOne() {
    CountedTokens x = fresh();
    for (int k : new int[] {MIN, -2, -1, 7, 8, MAX}) {
      Due.text(x, 0, "x");
      is("a FAULT", x.fault(0), 1);
      Due.feed(x, "?");
      is("text(" + k + ")", x.text(k), NONE);
      is("fault(0)", x.fault(0), 0);
      is("fault(1)", x.fault(1), NONE);
    }
  }

  @Says(in = "P13", value = "or a FAULT (it stays as it was)")
  static void p13_staysAsItWas() {
    CountedTokens x = fresh();
    own(x, 0, 0, 5);
    Due.text(x, 0, "rest 9; load 0; load 0;");
    x.go(1, 0);
    Due.text(x, 6, "tick 9; deliver 1; tick 9;");
    x.run(2);
    for (int k = 0; k < 7; k += 6) is("text(" + k + ")", Due.text(x, k, "tick 9; load 0; x"), NONE);
    is("ACTS", x.program(0, 0), 3);
    is("begun", x.program(0, 1), 1);
    is("RESTS till", x.program(0, 2), 9);
    is("lines", x.look(16), 3);
    is("run", x.look(17), 2);
    is("the third line", x.run(1), 1);
    is("TICK", x.look(5), 19);
    x.go(2, 0);
    is("the others", x.look(8), 2);
    // more than 200 ACTS is a FAULT, too
    is("201", Due.text(x, 0, "again 5{again 8{again 5{rest 1;}}}rest 1;"), NONE);
    is("ACTS", x.program(0, 0), 3);
    is("25 lines", Due.text(x, 6, "tick 1;".repeat(25)), NONE);
    is("lines", x.look(16), 3);
  }

  @Says(in = "P14", value = "RUN n (1 .. 24) lines of THE PLAN: how many of them were not refused; NONE if n can't be.")
  static void p14_run() {
    CountedTokens x = fresh();
    is("of none", x.run(1), 0);
    is("of none", x.run(24), 0);
    Due.text(x, 6, "tick 1;".repeat(24));
    refused("run", n -> x.run(n), NONE, 0, 25, 26);
    is("none was run", x.look(17), 0);
    is("TICK", x.look(5), 0);
    is("run(1)", x.run(1), 1);
    is("run(24)", x.run(24), 23);
    is("TICK", x.look(5), 24);
    Due.text(x, 6, "tick 1; last 1; tick 1; deliver 1;");
    is("two were refused", x.run(4), 2);
    is("run", x.look(17), 4);
  }

  @Says(in = "P15", value = "Of the latest text() what 0 the FAULT (0 without one), 1 its place (NONE). NONE for another what.")
  static void p15_fault() {
    CountedTokens x = fresh();
    is("at first", x.fault(0), 0);
    is("at first", x.fault(1), NONE);
    Due.text(x, 0, "load 1; load 8;");
    is("fault(0)", x.fault(0), 2);
    is("fault(1)", x.fault(1), 13);
    refused("fault", w -> x.fault(w), NONE, 2, 3);
    x.load(0, 0);
    x.feed(0, 0, 0, 0, 0);
    x.end(0);
    is("it stays", x.fault(0), 2);
    is("it stays", x.fault(1), 13);
    Due.text(x, 1, "load 1;");
    is("without one", x.fault(0), 0);
    is("without one", x.fault(1), NONE);
    Due.text(x, 6, "x");
    is("fault(0)", x.fault(0), 1);
    is("fault(1)", x.fault(1), 0);
  }

  @Says(in = "P16", value = "GO n (1 .. 60) by an ORDER (0 .. 2): how many MISSES ended in it, by whatever.")
  static void p16_go() {
    for (int order = 0; order < 3; order++) {
      CountedTokens x = fresh();
      is("none", x.go(1, order), 0);
      is("none", x.go(60, order), 0);
      is("TICK", x.look(5), 61);
      // by whatever: called ahead of it, by a PROGRAM
      x.load(0, 0);
      Due.text(x, 1, "load 1; store 2 2; add 3 3;");
      is("four", x.go(60, order), 4);
      is("no more", x.go(1, order), 0);
      // HITS are none
      Due.text(x, 1, "load 1; load 1;");
      is("HITS", x.go(5, order), 0);
    }
  }

  @Says(in = "P16", value = "NONE, and nothing is done, if one can't be, or TICK would be above 9999.")
  static void p16_refused() {
    CountedTokens x = fresh();
    Due.text(x, 0, "load 0;");
    for (int order = 0; order < 3; order++) {
      int one = order;
      refused("go(., " + order + ")", n -> x.go(n, one), NONE, 0, 61, 99);
    }
    refused("go(1, .)", o -> x.go(1, o), NONE, 3, 4);
    is("TICK", x.look(5), 0);
    is("not begun", x.program(0, 1), 0);
    CountedTokens y = Edges.at(9939);
    is("9999", y.go(60, 2), 0);
    is("TICK", y.look(5), 9999);
    is("above", y.go(1, 0), NONE);
    y = Edges.at(9940);
    is("10000", y.go(60, 0), NONE);
    is("TICK", y.look(5), 9940);
    Edges.unchanged(PromiseEdgesTest::late, z -> {
      for (int order = 0; order < 3; order++) z.go(6, order);
    });
    Edges.unchanged(Edges::busy, z -> {
      for (int order = -1; order < 4; order++) z.go(order < 0 || order > 2 ? 1 : 61, order);
      for (int n : FAR) z.go(n, 0);
    });
  }

  // ---- what is so

  @Says(in = "P17", value = "Of a LINE at a NODE what 0 COUNT, 1 OWNER, 2 VALID (1, 0), 3 DATA (NONE: not VALID)")
  static void p17_node() {
    CountedTokens x = fresh();
    has(x, HOME, 7, 8, 1, 1, 0);
    has(x, 2, 7, 0, 0, 0, NONE);
    own(x, 2, 7, 9999);
    has(x, HOME, 7, 0, 0, 0, NONE);
    has(x, 2, 7, 8, 1, 1, 9999);
    read(x, 0, 7);
    has(x, 0, 7, 1, 0, 1, 9999);
    x.evict(0, 7);
    quiet(x);
    has(x, HOME, 7, 1, 0, 0, NONE);
  }

  @Says(in = "P17", value = "4 THE TURN (NONE), 5 HINT (NONE; HOME: NONE), 6 its place among the LINES that it HAS by use (0: used longest ago; NONE; HOME: NONE)")
  static void p17_noneOfThem() {
    CountedTokens x = fresh();
    for (int node : new int[] {0, 1, 2, HOME}) for (int l = 0; l < 8; l++) for (int w = 4; w < 7; w++) is("node(" + node + ", " + l + ", " + w + ")", x.node(node, l, w), NONE);
    x.set(2, 8);
    for (int l = 7; l >= 0; l--) read(x, 1, l);
    for (int l = 0; l < 8; l++) is("place", x.node(1, l, 6), 7 - l);
    x.evict(1, 7);
    for (int l = 0; l < 7; l++) is("place", x.node(1, l, 6), 6 - l);
    is("it has it no more", x.node(1, 7, 6), NONE);
    is("HOME has none", x.node(HOME, 7, 6), NONE);
    quiet(x);
    // HOME is asked to write, and is sent TOKENS: no HINT
    own(x, 1, 7, 5);
    x.evict(1, 7);
    quiet(x);
    is("HOME", x.node(HOME, 7, 5), NONE);
    is("0", x.node(0, 7, 5), 1);
    x.store(2, 0, 5);
    Edges.forGood(x);
    come(x, 2, HOME, 4);
    is("THE TURN at HOME", x.node(HOME, 0, 4), 2);
    is("THE TURN at 0", x.node(0, 0, 4), NONE);
    is("THE TURN at 2", x.node(2, 0, 4), 2);
    is("another LINE", x.node(HOME, 1, 4), NONE);
  }

  @Says(in = "P17", value = "NONE - 1 if there is none such, or another what")
  static void p17_noneSuch() {
    CountedTokens x = fresh();
    for (int w = 0; w < 7; w++) {
      int what = w;
      refused("node(., 0, " + w + ")", n -> x.node(n, 0, what), NONE - 1, 3, 4, 5, 7, 8);
      refused("node(0, ., " + w + ")", l -> x.node(0, l, what), NONE - 1, 8, 9);
      refused("node(6, ., " + w + ")", l -> x.node(HOME, l, what), NONE - 1, 8, 9);
    }
    refused("node(0, 0, .)", w -> x.node(0, 0, w), NONE - 1, 7, 8);
    refused("node(6, 0, .)", w -> x.node(HOME, 0, w), NONE - 1, 7, 8);
    x.set(0, 2);
    is("not there any more", x.node(2, 0, 0), NONE - 1);
    x.set(0, 6);
    is("there now", x.node(5, 0, 0), 0);
  }

  @Says(in = "P18", value = "Of the MISS of a CPU what 0 LINE, 1 WHAT, 2 v (LOAD: 0), 3 ISSUED, 4 LATEST, 5 FOR GOOD (1, 0).")
  static void p18_miss() {
    CountedTokens x = fresh();
    x.tick(9);
    x.load(2, 7);
    int[] due = {7, 1, 0, 1, 9, 0};
    for (int w = 0; w < 6; w++) is("miss(2, " + w + ")", x.miss(2, w), due[w]);
    x.store(1, 6, 9999);
    int[] store = {6, 2, 9999, 1, 9, 0};
    for (int w = 0; w < 6; w++) is("miss(1, " + w + ")", x.miss(1, w), store[w]);
    x.add(0, 0, 0);
    Edges.forGood(x);
    int[] good = {0, 3, 0, 3, 11, 1};
    for (int w = 0; w < 6; w++) is("miss(0, " + w + ")", x.miss(0, w), good[w]);
  }

  @Says(in = "P18", value = "NONE if it has none, there is none such, or another what.")
  static void p18_none() {
    CountedTokens x = fresh();
    for (int w = 0; w < 6; w++) {
      for (int c = 0; c < 3; c++) is("it has none", x.miss(c, w), NONE);
      int what = w;
      refused("miss(., " + w + ")", c -> x.miss(c, what), NONE, 3, 4, 5, 6, 7);
    }
    x.load(0, 0);
    refused("miss(0, .)", w -> x.miss(0, w), NONE, 6, 7, 8);
    quiet(x);
    for (int w = 0; w < 6; w++) is("it is over", x.miss(0, w), NONE);
  }

  @Says(in = "P19", value = "what 0 SEQ, 1 ACTIVE, 2 LINE, 3 WHAT (2, 3: the latest told; 0 at first), 4 MARKED (1, 0)")
  static void p19_table() {
    CountedTokens x = fresh();
    for (int node : new int[] {0, 1, 2, HOME}) for (int c = 0; c < 3; c++) Edges.entry(x, node, c, 0, 0, 0, 0, 0);
    x.store(0, 7, 5);
    Edges.forGood(x);
    quiet(x);
    Edges.entry(x, HOME, 0, 1, 0, 7, 2, 0);
    Edges.entry(x, 2, 0, 1, 0, 7, 2, 0);
    x.load(0, 6);
    x.tick(3);
    come(x, 0, HOME, 4);
    Edges.entry(x, HOME, 0, 2, 1, 6, 1, 0);
    Edges.entry(x, 2, 0, 1, 0, 7, 2, 0);
    quiet(x);
    Edges.entry(x, HOME, 0, 2, 0, 6, 1, 0);
    Edges.entry(x, 0, 0, 2, 0, 6, 1, 0);
  }

  @Says(in = "P19", value = "NONE if there is none such, or another what.")
  static void p19_noneSuch() {
    CountedTokens x = fresh();
    for (int w = 0; w < 5; w++) {
      int what = w;
      refused("table(., 0, " + w + ")", n -> x.table(n, 0, what), NONE, 3, 4, 5, 7, 8);
      refused("table(0, ., " + w + ")", c -> x.table(0, c, what), NONE, 3, 4, 5, 6, 7);
      refused("table(6, ., " + w + ")", c -> x.table(HOME, c, what), NONE, 3, 4, 5, 6, 7);
    }
    refused("table(0, 0, .)", w -> x.table(0, 0, w), NONE, 5, 6);
    refused("table(6, 2, .)", w -> x.table(HOME, 2, w), NONE, 5, 6);
  }

  @Says(in = "P20", value = "4 how many (3; else 0), 5 OWNER (3; else 0), 6 DATA (3; NONE), 7 SEQ (4, 5; else 0), 8 WHAT (4; else 0)")
  static void p20_message() {
    CountedTokens x = fresh(2, 12);
    x.set(3, 2);
    x.load(0, 7);
    Edges.letter(x, 0, 0, HOME, 1, 7, 0, 0, NONE, 0, 0);
    x.store(1, 6, 9999);
    Edges.letter(x, 1, 1, HOME, 2, 6, 0, 0, NONE, 0, 0);
    x.deliver(1);
    Edges.letter(x, 1, HOME, 1, 3, 6, 12, 1, 0, 0, 0);
    x.deliver(1);
    x.evict(1, 6);
    Edges.letter(x, 1, 1, HOME, 3, 6, 12, 1, 9999, 0, 0);
    Edges.forGood(x);
    int at = Edges.find(x, 0, HOME, 4);
    Edges.letter(x, at, 0, HOME, 4, 7, 0, 0, NONE, 1, 1);
    x.deliver(at);
    Edges.letter(x, x.look(6) - 1, HOME, 0, 3, 7, 11, 1, 0, 0, 0);
    come(x, HOME, 0, 3);
    Edges.letter(x, x.look(6) - 1, 0, HOME, 5, 7, 0, 0, NONE, 1, 0);
    // how many without DATA, OWNER
    x = fresh();
    own(x, 0, 0, 5);
    read(x, 1, 0);
    x.evict(1, 0);
    Edges.letter(x, 0, 1, HOME, 3, 0, 1, 0, NONE, 0, 0);
  }

  @Says(in = "P20", value = "NONE - 1 if there is none such, or another what.")
  static void p20_noneSuch() {
    CountedTokens x = fresh();
    for (int w = 0; w < 9; w++) {
      int what = w;
      refused("message of none", i -> x.message(i, what), NONE - 1, 0, 1);
    }
    CountedTokens y = fresh();
    y.load(0, 0);
    for (int w = 0; w < 9; w++) {
      int what = w;
      refused("message(., " + w + ")", i -> y.message(i, what), NONE - 1, 3, 4);
    }
    refused("message(0, .)", w -> y.message(0, w), NONE - 1, 9, 10);
    refused("message(2, .)", w -> y.message(2, w), NONE - 1, 9, 10);
    quiet(y);
    is("none any more", y.message(0, 0), NONE - 1);
  }

  @Says(in = "P21", value = "The i-th of what a CPU has SEEN; how many (i NONE). NONE if there is none such.")
  static void p21_seen() {
    CountedTokens x = fresh();
    is("how many", x.seen(2, NONE), 0);
    is("none", x.seen(2, 0), NONE);
    read(x, 2, 0);
    is("how many", x.seen(2, NONE), 1);
    is("the first", x.seen(2, 0), 0);
    for (int i : new int[] {MIN, -3, -2, 1, 59, 60, 61, MAX}) is("seen(2, " + i + ")", x.seen(2, i), NONE);
    for (int i = NONE; i < 2; i++) {
      int one = i;
      refused("seen(., " + i + ")", c -> x.seen(c, one), NONE, 3, 4, 5, 6, 7);
    }
    is("another", x.seen(1, NONE), 0);
  }

  @Says(in = "P22", value = "what 0 how many ACTS, 1 how many were done (begun), 2 till which TICK it RESTS (0: never yet)")
  static void p22_program() {
    CountedTokens x = fresh();
    for (int k = 0; k < 6; k++) for (int w = 0; w < 3; w++) is("at first", x.program(k, w), 0);
    Due.text(x, 2, "load 0; rest 3; load 0;");
    is("ACTS", x.program(2, 0), 3);
    is("begun", x.program(2, 1), 0);
    x.set(3, 2);
    x.go(1, 0);
    is("begun", x.program(2, 1), 1);
    is("never yet", x.program(2, 2), 0);
    x.go(1, 0);
    is("begun", x.program(2, 1), 2);
    is("RESTS till", x.program(2, 2), 4);
    x.go(9, 0);
    is("begun", x.program(2, 1), 3);
    is("RESTED till", x.program(2, 2), 4);
    is("ACTS", x.program(2, 0), 3);
    // begun, though its MISS is on
    x = fresh();
    own(x, 0, 7, 5);
    x.set(3, 2);
    Due.text(x, 1, "load 7;");
    x.go(2, 0);
    is("its MISS is on", x.miss(1, 0), 7);
    is("begun", x.program(1, 1), 1);
  }

  @Says(in = "P22", value = "NONE if there is none such, or another what.")
  static void p22_noneSuch() {
    CountedTokens x = fresh();
    for (int w = 0; w < 3; w++) {
      int what = w;
      refused("program(., " + w + ")", k -> x.program(k, what), NONE, 6, 7);
    }
    for (int k = 0; k < 6; k++) {
      int one = k;
      refused("program(" + k + ", .)", w -> x.program(one, w), NONE, 3, 4);
    }
  }

  @Says(in = "P23", value = "SOON. NONE, too, if there is none such.")
  static void p23_soon() {
    CountedTokens x = fresh();
    refused("soon", c -> x.soon(c), NONE, 3, 4, 5, 6, 7);
    for (int c = 0; c < 3; c++) is("none", x.soon(c), 0);
    x.set(0, 6);
    is("there now", x.soon(5), 0);
    x.set(0, 2);
    is("not there any more", x.soon(2), NONE);
  }

  @Says(in = "P24", value = "3 by how few deliveries (0: there is none now; NONE: one never comes to one), 4 whether one can come back. NONE, too, if there are too many, or another what.")
  static void p24_walk() {
    CountedTokens x = fresh();
    is("0: there is none now", x.walk(3), 0);
    refused("walk", w -> x.walk(w), NONE, 5, 6);
    x.load(0, 0);
    is("four deliveries", x.walk(3), 4);
    is("not back", x.walk(4), 0);
    refused("walk", w -> x.walk(w), NONE, 5, 6);
    x.load(1, 1);
    x.load(2, 2);
    for (int w = 0; w < 5; w++) is("too many", x.walk(w), NONE);
  }

  @Says(in = "P25", value = "Of a LINE what 0 at which NODE its OWNER token is (NONE: on its way), 1 which CPUS could LOAD it as a HIT (a set), 2 which could STORE (NONE)")
  static void p25_where() {
    CountedTokens x = fresh(6, 12);
    is("at HOME", x.where(0, 0), HOME);
    is("none could LOAD", x.where(0, 1), 0);
    is("none could STORE", x.where(0, 2), NONE);
    own(x, 5, 0, 5);
    is("at 5", x.where(0, 0), 5);
    is("5 could LOAD", x.where(0, 1), 32);
    is("5 could STORE", x.where(0, 2), 5);
    for (int c = 0; c < 5; c++) read(x, c, 0);
    is("all could LOAD", x.where(0, 1), 63);
    is("none could STORE", x.where(0, 2), NONE);
    x.evict(5, 0);
    is("on its way", x.where(0, 0), NONE);
    is("five could LOAD", x.where(0, 1), 31);
    own(x, 0, 7, 1);
    is("0 could STORE", x.where(7, 2), 0);
  }

  @Says(in = "P25", value = "3 how many NODES have TOKENS of it, 4 how many of these are on their way, 5 which CPUS have a MISS of it (a set), 6 by how many NODES' TABLES it is somebody's TURN")
  static void p25_counts() {
    CountedTokens x = fresh(6, 12);
    int[] first = {1, 0, 0, 0};
    for (int w = 3; w < 7; w++) is("where(0, " + w + ")", x.where(0, w), first[w - 3]);
    for (int c = 0; c < 6; c++) x.load(c, 0);
    is("all have a MISS", x.where(0, 5), 63);
    is("of another LINE", x.where(1, 5), 0);
    quiet(x);
    is("all have TOKENS", x.where(0, 3), 7);
    is("no MISS", x.where(0, 5), 0);
    for (int c = 0; c < 6; c++) x.evict(c, 0);
    is("HOME alone", x.where(0, 3), 1);
    is("six on their way", x.where(0, 4), 6);
    is("of another LINE", x.where(1, 4), 0);
    quiet(x);
    own(x, 0, 0, 5);
    x.evict(0, 0);
    is("no NODE", x.where(0, 3), 0);
    is("all on their way", x.where(0, 4), 12);
    quiet(x);
    x.set(3, 2);
    x.load(3, 0);
    Edges.forGood(x);
    is("its own TABLE", x.where(0, 6), 1);
    for (int to : new int[] {0, 1, 2, 4, 5}) come(x, 3, to, 4);
    is("all but HOME", x.where(0, 6), 6);
    x.load(4, 0);
    x.tick(3);
    come(x, 4, 0, 4);
    is("somebody's is once", x.where(0, 6), 6);
    come(x, 3, HOME, 4);
    is("all", x.where(0, 6), 7);
    is("of another LINE", x.where(1, 6), 0);
  }

  @Says(in = "P25", value = "NONE - 1 if there is none such, or another what.")
  static void p25_noneSuch() {
    CountedTokens x = fresh();
    for (int w = 0; w < 7; w++) {
      int what = w;
      refused("where(., " + w + ")", l -> x.where(l, what), NONE - 1, 8, 9);
    }
    refused("where(0, .)", w -> x.where(0, w), NONE - 1, 7, 8);
    refused("where(7, .)", w -> x.where(7, w), NONE - 1, 7, 8);
  }

  @Says(in = "P26", value = "2 how many TICKS these took in all (from where they began to where they ENDED), 3 the most that one took, 4 how often it ASKED FOR GOOD")
  static void p26_cost() {
    CountedTokens x = fresh();
    for (int c = 0; c < 6; c++) for (int w = 0; w < 5; w++) is("at first", x.cost(c, w), 0);
    x.tick(7);
    read(x, 0, 0);
    int[] none = {0, 1, 0, 0, 0};
    for (int w = 0; w < 5; w++) is("in no TICK: cost(0, " + w + ")", x.cost(0, w), none[w]);
    // it took 5, then 3; one that is on counts nothing yet
    x.load(0, 1);
    x.tick(5);
    is("on", x.cost(0, 2), 0);
    quiet(x);
    x.load(0, 2);
    x.tick(3);
    quiet(x);
    x.load(0, 0);
    x.load(0, 3);
    x.tick(2);
    int[] two = {1, 3, 8, 5, 0};
    for (int w = 0; w < 5; w++) is("cost(0, " + w + ")", x.cost(0, w), two[w]);
    // from where it began, not from where it asked latest
    x = fresh();
    x.store(1, 0, 5);
    Edges.forGood(x);
    x.tick(4);
    quiet(x);
    int[] good = {0, 1, 7, 7, 1};
    for (int w = 0; w < 5; w++) is("cost(1, " + w + ")", x.cost(1, w), good[w]);
    x.evict(1, 0);
    quiet(x);
    x.set(0, 6);
    x.set(0, 2);
    for (int w = 0; w < 5; w++) is("cost(1, " + w + ")", x.cost(1, w), good[w]);
  }

  @Says(in = "P26", value = "Of a CPU (0 .. 5, there or not)")
  static void p26_thereOrNot() {
    CountedTokens x = fresh(6, 8);
    read(x, 5, 0);
    x.load(5, 0);
    x.evict(5, 0);
    quiet(x);
    x.set(0, 2);
    is("HITS of one that is away", x.cost(5, 0), 1);
    is("MISSES of one that is away", x.cost(5, 1), 1);
    is("in all", x.look(8), 1);
    is("in all", x.look(9), 1);
  }

  @Says(in = "P26", value = "NONE if there is none such, or another what.")
  static void p26_noneSuch() {
    CountedTokens x = fresh();
    for (int w = 0; w < 5; w++) {
      int what = w;
      refused("cost(., " + w + ")", c -> x.cost(c, what), NONE, 6, 7);
    }
    refused("cost(0, .)", w -> x.cost(0, w), NONE, 5, 6);
    refused("cost(5, .)", w -> x.cost(5, w), NONE, 5, 6);
  }

  @Says(in = "P27", value = "GROUP of a CPU of a LINE (a set). NONE if there is none such.")
  static void p27_group() {
    CountedTokens x = fresh(6, 8);
    for (int c = 1; c < 6; c++) read(x, c, 7);
    is("a set", x.group(0, 7), 62);
    is("without itself", x.group(5, 7), 31 - 1);
    is("another LINE", x.group(0, 6), 0);
    CountedTokens y = fresh();
    for (int l = 0; l < 8; l++) {
      int line = l;
      refused("group(., " + l + ")", c -> y.group(c, line), NONE, 3, 4, 5, 6, 7);
    }
    refused("group(0, .)", l -> y.group(0, l), NONE, 8, 9);
    refused("group(2, .)", l -> y.group(2, l), NONE, 8, 9);
  }

  @Says(in = "P28", value = "Of line i of THE TRACE (0 the latest) what 0 TICK, 1 what, 2 CPU, 3 LINE. NONE if there is none such, or another what.")
  static void p28_trace() {
    CountedTokens x = fresh();
    for (int w = 0; w < 4; w++) {
      int what = w;
      refused("trace of none", i -> x.trace(i, what), NONE, 0, 1, 99);
    }
    CountedTokens y = Edges.at(9999);
    own(y, 2, 7, 5);
    int[] due = {9999, 2, 2, 7};
    for (int w = 0; w < 4; w++) is("trace(0, " + w + ")", y.trace(0, w), due[w]);
    for (int w = 0; w < 4; w++) is("trace(1, " + w + ")", y.trace(1, w), w == 1 ? 1 : due[w]);
    for (int w = 0; w < 4; w++) {
      int what = w;
      refused("trace of two", i -> y.trace(i, what), NONE, 2, 3, 99);
    }
    refused("trace(0, .)", w -> y.trace(0, w), NONE, 4, 5);
    refused("trace(1, .)", w -> y.trace(1, w), NONE, 4, 5);
    CountedTokens z = fresh();
    own(z, 0, 0, 5);
    for (int i = 0; i < 150; i++) z.load(0, 0);
    for (int w = 0; w < 4; w++) {
      is("the oldest", z.trace(99, w), 0);
      int what = w;
      refused("trace of 152", i -> z.trace(i, what), NONE, 100, 101, 151, 152);
    }
  }

  @Says(in = "P29", value = "From NODE a to NODE b (0 .. 6, there or not) what 0 how many MESSAGES were sent, 1 how many TOKENS, 2 how many MESSAGES 3 with DATA")
  static void p29_flow() {
    CountedTokens x = fresh(6, 8);
    own(x, 5, 0, 5);
    read(x, 4, 0);
    x.evict(4, 0);
    x.evict(5, 0);
    quiet(x);
    x.set(0, 2);
    int[][] due = {{5, HOME, 2, 7, 1}, {HOME, 5, 1, 8, 1}, {5, 4, 2, 1, 1}, {4, HOME, 2, 1, 0}, {4, 5, 1, 0, 0}, {0, 0, 0, 0, 0}, {HOME, HOME, 0, 0, 0}, {0, 1, 0, 0, 0}};
    for (int[] d : due) for (int w = 0; w < 3; w++) is("flow(" + d[0] + ", " + d[1] + ", " + w + ")", x.flow(d[0], d[1], w), d[2 + w]);
  }

  @Says(in = "P29", value = "(what is DROPPED is not sent)")
  static void p29_droppedIsNotSent() {
    CountedTokens x = fresh(6, 8);
    x.set(4, 1);
    for (int c = 0; c < 5; c++) x.store(c, c, 1);
    x.tick(1);
    x.load(5, 5);
    is("DROPPED", x.look(7), 6);
    for (int to = 0; to < 7; to++) is("flow(5, " + to + ", 0)", x.flow(5, to, 0), 0);
    is("flow(4, 6, 0)", x.flow(4, HOME, 0), 2);
  }

  @Says(in = "P29", value = "NONE if there is none such, or another what.")
  static void p29_noneSuch() {
    CountedTokens x = fresh();
    for (int w = 0; w < 3; w++) {
      int what = w;
      refused("flow(., 0, " + w + ")", a -> x.flow(a, 0, what), NONE, 7, 8);
      refused("flow(0, ., " + w + ")", b -> x.flow(0, b, what), NONE, 7, 8);
      is("flow(6, 6, " + w + ")", x.flow(HOME, HOME, w), 0);
    }
    refused("flow(0, 0, .)", w -> x.flow(0, 0, w), NONE, 3, 4);
    refused("flow(6, 6, .)", w -> x.flow(HOME, HOME, w), NONE, 3, 4);
  }

  @Says(in = "P30", value = "CAN. NONE if there is none such.")
  static void p30_can() {
    CountedTokens x = fresh();
    for (int l = 0; l < 8; l++) {
      int line = l;
      refused("can(., " + l + ")", c -> x.can(c, line), NONE, 3, 4, 5, 6, 7);
    }
    refused("can(0, .)", l -> x.can(0, l), NONE, 8, 9);
    own(x, 2, 7, 5);
    is("can(2, 7)", x.can(2, 7), 2);
    is("can(0, 7)", x.can(0, 7), 0);
  }

  @Says(in = "P31", value = "WORTH. NONE if there is none such.")
  static void p31_worth() {
    CountedTokens x = fresh();
    refused("worth", l -> x.worth(l), NONE, 8, 9);
    own(x, 2, 7, 5);
    is("worth(7)", x.worth(7), 5);
    is("worth(0)", x.worth(0), 0);
  }

  @Says(in = "P32", value = "THE IMAGE is taken (true), or gone back to (false): true; false if there is none.")
  static void p32_image() {
    CountedTokens x = fresh();
    is("none", x.image(false), false);
    x.tick(3);
    is("still none", x.image(false), false);
    is("TICK", x.look(5), 3);
    is("taken", x.image(true), true);
    is("gone back", x.image(false), true);
    is("gone back again", x.image(false), true);
    is("taken again", x.image(true), true);
    is("of another object", fresh().image(false), false);
    Edges.unchanged(Edges::busy, y -> y.image(false));
    Edges.unchanged(Edges::busy, y -> y.image(true));
  }

  @Says(in = "P33", value = "What 0 n, 1 t, 2 ROOM, 3 POLICY, 4 PATIENCE, 5 TICK, 6 MESSAGES, 7 DROPPED")
  static void p33_look() {
    CountedTokens x = fresh(6, 12);
    x.set(2, 1);
    x.set(3, 2);
    x.set(4, 1);
    own(x, 0, 0, 5);
    x.load(0, 0);
    own(x, 0, 1, 6);
    x.store(1, 2, 5);
    x.tick(3);
    x.state(-7);
    Due.text(x, 6, "tick 1; deliver 1; tick 1;");
    x.run(1);
    // a MISS of 1: one that asks HOME, then six, then six, then six for good
    int[] due = {6, 12, 1, 2, 1, 4, 19, 0, 1, 2, 1, 1, 4 + 1, 0, -7, 1, 3, 1, 2 + 1 + 3 + 1 + 3};
    for (int w = 0; w < due.length; w++) is("look(" + w + ")", x.look(w), due[w]);
    come(x, 1, HOME, 4);
    is("TOKENS on their way", x.look(13), 12);
  }

  @Says(in = "P33", value = "8 HITS, 9 MISSES ENDED, 10 how often one ASKED FOR GOOD, 11 EVICTIONS, 12 MESSAGES delivered, 13 TOKENS on their way, 14 STATE, 15 how many CPUS have a MISS, 16 lines of THE PLAN, 17 lines that were run of it")
  static void p33_sums() {
    // of all CPUS, those that are away, too
    CountedTokens x = fresh(6, 8);
    x.set(3, 2);
    for (int c = 0; c < 6; c++) x.load(c, c);
    is("CPUS that have a MISS", x.look(15), 6);
    Edges.forGood(x);
    is("ASKED FOR GOOD", x.look(10), 6);
    quiet(x);
    is("ENDED", x.look(9), 6);
    is("none has a MISS", x.look(15), 0);
    for (int c = 0; c < 6; c++) x.load(c, c);
    is("HITS", x.look(8), 6);
    int held = 0;
    for (int c = 0; c < 6; c++) held += x.node(c, c, 0);
    for (int c = 0; c < 6; c++) x.evict(c, c);
    is("EVICTIONS", x.look(11), 6);
    is("TOKENS on their way", x.look(13), held);
    int came = x.look(12);
    quiet(x);
    is("delivered", x.look(12), came + 6);
    is("none on their way", x.look(13), 0);
    x.set(0, 2);
    is("HITS", x.look(8), 6);
    is("ENDED", x.look(9), 6);
    is("ASKED FOR GOOD", x.look(10), 6);
    is("EVICTIONS", x.look(11), 6);
  }

  @Says(in = "P33", value = "18 lines of THE TRACE (all that came, kept or not)")
  static void p33_allThatCame() {
    CountedTokens x = fresh();
    own(x, 0, 0, 5);
    for (int i = 0; i < 300; i++) x.load(0, 0);
    is("look(18)", x.look(18), 302);
  }

  @Says(in = "P33", value = "NONE - 99999 for another what. (14 as it is.)")
  static void p33_anotherWhat() {
    CountedTokens x = fresh();
    refused("look", w -> x.look(w), NONE - 99999, 19, 20);
    for (int v : new int[] {NONE - 99999, NONE, MIN, MAX}) {
      x.state(v);
      is("look(14)", x.look(14), v);
    }
  }

  /** Each promise has a test here. */
  private static void allPromises() {
    TreeSet<String> left = new TreeSet<>();
    for (int i = 1; i <= 33; i++) left.add("P" + i);
    Edges.testsOf(PromiseEdgesTest.class).forEach(m -> left.remove(m.getAnnotation(Says.class).in()));
    if (!left.isEmpty()) throw new IllegalStateException("without a test: " + Arrays.toString(left.toArray()));
  }

  public static void main(String[] args) throws Exception {
    allPromises();
    Edges.run(PromiseEdgesTest.class);
  }
}
