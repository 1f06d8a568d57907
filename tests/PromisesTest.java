/** Each promise of the document by itself: ordinary inputs, the edges it names, wrong inputs. */
public final class PromisesTest {
  private static final int NONE = CountedTokens.NONE;
  private static final int HOME = 6;
  private static final int MIN = Integer.MIN_VALUE;
  private static final int MAX = Integer.MAX_VALUE;

  private static void due(int promise, String call, int got, int want) { Due.due(promise, call, got, want); }
  private static void due(int promise, String call, boolean got, boolean want) { Due.due(promise, call, got, want); }

  private static CountedTokens fresh() { return new CountedTokens(); }

  /** All that a NODE has of a LINE as one text: COUNT, OWNER, VALID, DATA. */
  private static void has(int promise, CountedTokens x, int node, int line, int count, int owner, int valid, int data) {
    String at = "node(" + node + ", " + line + ", ";
    due(promise, at + "0)", x.node(node, line, 0), count);
    due(promise, at + "1)", x.node(node, line, 1), owner);
    due(promise, at + "2)", x.node(node, line, 2), valid);
    due(promise, at + "3)", x.node(node, line, 3), data);
  }

  private static void message(int promise, CountedTokens x, int i, int... nine) {
    for (int w = 0; w < 9; w++) due(promise, "message(" + i + ", " + w + ")", x.message(i, w), nine[w]);
  }

  /** Gives a CPU all TOKENS of a LINE, which holds v then. */
  private static void own(CountedTokens x, int cpu, int line, int v) {
    x.store(cpu, line, v);
    quiet(x);
  }

  private static void quiet(CountedTokens x) { for (int i = 0; i < 2000 && x.look(6) > 0; i++) x.deliver(0); }

  private static void newObject() {
    CountedTokens x = fresh();
    int[] look = {3, 8, 4, 0, 6, 0, 0, 0, 0, 0, 0, 0, 0, 0, 0, 0, 0, 0, 0};
    for (int w = 0; w < look.length; w++) due(1, "look(" + w + ")", x.look(w), look[w]);
    for (int l = 0; l < 8; l++) {
      has(1, x, HOME, l, 8, 1, 1, 0);
      for (int c = 0; c < 3; c++) has(1, x, c, l, 0, 0, 0, NONE);
      due(1, "worth", x.worth(l), 0);
    }
    for (int c = 0; c < 3; c++) due(1, "seen", x.seen(c, NONE), 0);
  }

  private static void state() {
    CountedTokens x = fresh();
    due(2, "state(7)", x.state(7), 0);
    due(2, "state(-3)", x.state(-3), 7);
    due(2, "look(14)", x.look(14), -3);
    due(2, "state(MIN)", x.state(MIN), -3);
    due(2, "look(14)", x.look(14), MIN);
    // One DRAW: only when there is a MESSAGE, and of how many there are.
    x.state(1);
    x.go(1, 2);
    due(2, "no draw", x.look(14), 1);
    x.load(0, 0);
    x.go(1, 0);
    due(2, "no draw by order 0", x.look(14), 1);
    x.load(1, 1);
    x.go(1, 1);
    due(2, "no draw by order 1", x.look(14), 1);
    quiet(x);
    x.load(2, 2);
    due(2, "three on their way", x.look(6), 3);
    int s = 1664525 * 1 + 1013904223;
    int first = (s >>> 8) % 3;
    int to = x.message(first, 1);
    x.go(1, 2);
    // whichever came first: three were delivered, and each drew
    int t = 1664525 * (1664525 * s + 1013904223) + 1013904223;
    due(2, "three draws", x.look(14), t);
    due(2, "first drawn is a node", to == 0 || to == 1 || to == HOME, true);
  }

  private static void drawsPick() {
    // STATE such that the highest bit is set: the 24 bits are without sign.
    int s = 0;
    for (int i = 0; i < 1000; i++) {
      int next = 1664525 * s + 1013904223;
      if (next < 0) break;
      s++;
    }
    int next = 1664525 * s + 1013904223;
    CountedTokens x = fresh();
    x.set(1, 8);
    x.load(0, 3);
    x.state(s);
    int pick = (next >>> 8) % 3;
    int to = x.message(pick, 1);
    x.go(1, 2);
    boolean reached = to == HOME ? x.node(HOME, 3, 0) == 7 : x.group(to, 3) == 1;
    due(2, "the drawn one came", reached, true);
    due(2, "the draw is negative as an int", next < 0, true);
  }

  private static void set() {
    CountedTokens x = fresh();
    int[][] good = {{0, 2}, {0, 6}, {1, 6}, {1, 12}, {2, 1}, {2, 8}, {3, 0}, {3, 3}, {4, 1}, {4, 20}};
    for (int[] g : good) {
      due(3, "set(" + g[0] + ", " + g[1] + ")", x.set(g[0], g[1]), true);
      due(3, "look(" + g[0] + ")", x.look(g[0]), g[1]);
    }
    for (int l = 0; l < 8; l++) has(3, x, HOME, l, 12, 1, 1, 0);
    int[][] bad = {{0, 1}, {0, 7}, {1, 5}, {1, 13}, {2, 0}, {2, 9}, {3, -1}, {3, 4}, {4, 0}, {4, 21}, {5, 1}, {-1, 3}, {MAX, 1}, {MIN, 1}, {0, MIN}, {1, MAX}};
    for (int[] b : bad) due(3, "set(" + b[0] + ", " + b[1] + ")", x.set(b[0], b[1]), false);
    int[] look = {6, 12, 8, 3, 20};
    for (int w = 0; w < 5; w++) due(3, "look(" + w + ")", x.look(w), look[w]);
    x = fresh();
    due(3, "t 3 = n", x.set(1, 3), true);
    due(3, "n above t", x.set(0, 4), false);
    due(3, "t below n", x.set(1, 2), false);
    due(3, "n = t", x.set(0, 3), true);
    due(3, "n 2", x.set(0, 2), true);
    due(3, "t 2", x.set(1, 2), true);
    // A MISS, a MESSAGE, TOKENS away from HOME: each forbids n and t, not the others.
    x = fresh();
    x.set(3, 2);
    x.load(0, 0);
    due(3, "n in a MISS", x.set(0, 4), false);
    due(3, "t in a MISS", x.set(1, 9), false);
    due(3, "ROOM in a MISS", x.set(2, 3), true);
    due(3, "POLICY in a MISS", x.set(3, 0), true);
    due(3, "PATIENCE in a MISS", x.set(4, 2), true);
    x.deliver(0);
    x.deliver(0);
    due(3, "no MESSAGES, TOKENS away", x.look(6), 0);
    due(3, "n with TOKENS away", x.set(0, 3), false);
    x.evict(0, 0);
    due(3, "n with a MESSAGE", x.set(0, 3), false);
    x.deliver(0);
    due(3, "n with all at HOME", x.set(0, 5), true);
    // DATA at HOME, HINTS, PROGRAMS stay.
    x = fresh();
    own(x, 0, 1, 77);
    own(x, 1, 1, 78);
    x.evict(1, 1);
    quiet(x);
    Due.text(x, 4, "load 1;");
    due(3, "n 2", x.set(0, 2), true);
    due(3, "t 12", x.set(1, 12), true);
    has(3, x, HOME, 1, 12, 1, 1, 78);
    due(3, "HINT stays", x.node(0, 1, 5), 1);
    due(3, "PROGRAM stays", x.program(4, 0), 1);
    due(3, "TICK stays", x.look(5), 0);
    // A MISS alone, all TOKENS at HOME, no MESSAGE: what CPU 5 asked was DROPPED.
    x = fresh();
    x.set(0, 6);
    x.set(4, 1);
    for (int c = 0; c < 5; c++) x.load(c, c);
    x.tick(1);
    x.load(5, 5);
    quiet(x);
    for (int c = 0; c < 5; c++) x.evict(c, c);
    quiet(x);
    due(3, "no MESSAGE", x.look(6), 0);
    for (int l = 0; l < 8; l++) due(3, "all at HOME", x.node(HOME, l, 0), 8);
    due(3, "n in a MISS", x.set(0, 6), false);
    due(3, "t in a MISS", x.set(1, 8), false);
    x.calm(2);
    x.evict(5, 5);
    quiet(x);
    due(3, "n then", x.set(0, 6), true);
    // Less ROOM evicts nothing.
    x = fresh();
    for (int l = 0; l < 4; l++) own(x, 0, l, l);
    due(3, "ROOM 1", x.set(2, 1), true);
    due(3, "EVICTIONS", x.look(11), 0);
    for (int l = 0; l < 4; l++) has(3, x, 0, l, 8, 1, 1, l);
    // a MISS evicts one even then
    own(x, 0, 7, 7);
    due(3, "EVICTIONS", x.look(11), 1);
    has(3, x, 0, 0, 0, 0, 0, NONE);
    has(3, x, 0, 1, 8, 1, 1, 1);
  }

  private static void load() {
    CountedTokens x = fresh();
    due(4, "load(0, 2)", x.load(0, 2), NONE);
    due(4, "load(0, 2)", x.load(0, 2), NONE - 1);
    due(4, "load(0, 3)", x.load(0, 3), NONE - 1);
    quiet(x);
    due(4, "a hit", x.load(0, 2), 0);
    due(4, "HITS", x.look(8), 1);
    int[][] bad = {{3, 0}, {-1, 0}, {6, 0}, {0, 8}, {0, -1}, {MAX, MIN}};
    for (int[] b : bad) due(4, "load(" + b[0] + ", " + b[1] + ")", x.load(b[0], b[1]), NONE - 1);
    own(x, 1, 5, 4321);
    due(4, "own", x.load(1, 5), 4321);
    // TOKENS without DATA are no HIT: 2 has one TOKEN, not OWNER; 0 asks to write and gets it first.
    x = fresh();
    x.load(2, 0);
    quiet(x);
    x.store(0, 0, 5);
    x.deliver(1);
    x.deliver(2);
    has(4, x, 0, 0, 1, 0, 0, NONE);
    due(4, "can", x.can(0, 0), 0);
    x.deliver(0);
    x.deliver(0);
    x.deliver(0);
    has(4, x, 0, 0, 8, 1, 1, 5);
  }

  private static void store() {
    CountedTokens x = fresh();
    due(5, "store(0, 0, 9999)", x.store(0, 0, 9999), 0);
    due(5, "in a MISS", x.store(0, 1, 1), NONE);
    message(5, x, 0, 0, 1, 2, 0, 0, 0, NONE, 0, 0);
    message(5, x, 1, 0, 2, 2, 0, 0, 0, NONE, 0, 0);
    message(5, x, 2, 0, 6, 2, 0, 0, 0, NONE, 0, 0);
    quiet(x);
    has(5, x, 0, 0, 8, 1, 1, 9999);
    has(5, x, HOME, 0, 0, 0, 0, NONE);
    due(5, "a hit", x.store(0, 0, 3), 1);
    due(5, "worth", x.worth(0), 3);
    due(5, "nothing SEEN", x.seen(0, NONE), 0);
    int[][] bad = {{0, 0, 10000}, {0, 0, -1}, {3, 0, 1}, {-1, 0, 1}, {0, 8, 1}, {0, -1, 1}, {6, 0, 1}, {MIN, MAX, MIN}};
    for (int[] b : bad) due(5, "store of wrong", x.store(b[0], b[1], b[2]), NONE);
    due(5, "store(0, 0, 0)", x.store(0, 0, 0), 1);
    // all TOKENS but one are no HIT
    x.load(1, 0);
    quiet(x);
    due(5, "seven tokens", x.node(0, 0, 0), 7);
    due(5, "a MISS", x.store(0, 0, 8), 0);
    quiet(x);
    has(5, x, 0, 0, 8, 1, 1, 8);
    due(5, "HITS", x.look(8), 2);
    due(5, "MISSES ENDED", x.look(9), 3);
  }

  private static void add() {
    CountedTokens x = fresh();
    due(6, "add(2, 7, 9999)", x.add(2, 7, 9999), 0);
    due(6, "in a MISS", x.add(2, 7, 1), NONE);
    quiet(x);
    due(6, "worth", x.worth(7), 9999);
    due(6, "a hit", x.add(2, 7, 2), 1);
    due(6, "wrapped", x.worth(7), 1);
    due(6, "a hit", x.add(2, 7, 0), 1);
    due(6, "worth", x.worth(7), 1);
    int[] seen = {0, 9999, 1};
    due(6, "seen", x.seen(2, NONE), 3);
    for (int i = 0; i < 3; i++) due(6, "seen " + i, x.seen(2, i), seen[i]);
    int[][] bad = {{0, 0, 10000}, {0, 0, -1}, {3, 0, 1}, {-1, 0, 1}, {0, 8, 1}, {0, -1, 1}};
    for (int[] b : bad) due(6, "add of wrong", x.add(b[0], b[1], b[2]), NONE);
  }

  private static void evict() {
    CountedTokens x = fresh();
    due(7, "has none", x.evict(0, 0), false);
    own(x, 0, 0, 5);
    own(x, 0, 1, 6);
    due(7, "evict", x.evict(0, 0), true);
    has(7, x, 0, 0, 0, 0, 0, NONE);
    message(7, x, 0, 0, HOME, 3, 0, 8, 1, 5, 0, 0);
    due(7, "place", x.node(0, 1, 6), 0);
    due(7, "EVICTIONS", x.look(11), 1);
    due(7, "trace", x.trace(0, 1), 4);
    due(7, "again", x.evict(0, 0), false);
    x.deliver(0);
    has(7, x, HOME, 0, 8, 1, 1, 5);
    // not OWNER: without DATA
    x.load(2, 1);
    quiet(x);
    due(7, "evict", x.evict(2, 1), true);
    message(7, x, 0, 2, HOME, 3, 1, 1, 0, NONE, 0, 0);
    x.deliver(0);
    has(7, x, HOME, 1, 1, 0, 0, NONE);
    // not the LINE of its MISS, though it has some of it
    x.store(0, 1, 9);
    due(7, "tokens", x.node(0, 1, 0), 7);
    due(7, "of its MISS", x.evict(0, 1), false);
    int[][] bad = {{3, 0}, {-1, 0}, {6, 2}, {0, 8}, {0, -1}, {MAX, MAX}};
    for (int[] b : bad) due(7, "evict of wrong", x.evict(b[0], b[1]), false);
    due(7, "EVICTIONS", x.look(11), 2);
  }

  private static void deliver() {
    CountedTokens x = fresh();
    due(8, "none", x.deliver(0), NONE);
    x.load(0, 0);
    due(8, "deliver(3)", x.deliver(3), NONE);
    due(8, "deliver(-1)", x.deliver(-1), NONE);
    due(8, "deliver(MAX)", x.deliver(MAX), NONE);
    due(8, "delivered", x.look(12), 0);
    due(8, "deliver(2)", x.deliver(2), 1);
    // OWNER with more than one: one TOKEN with DATA, not OWNER
    message(8, x, 2, HOME, 0, 3, 0, 1, 0, 0, 0, 0);
    due(8, "deliver(2)", x.deliver(2), 3);
    has(8, x, 0, 0, 1, 0, 1, 0);
    quiet(x);
    // who is not OWNER doesn't answer one who reads
    x.set(3, 1);
    x.load(1, 0);
    x.deliver(0);
    x.deliver(0);
    x.set(3, 0);
    x.load(2, 0);
    due(8, "to 0", x.message(0, 1), 0);
    x.deliver(0);
    due(8, "no answer", x.look(6), 2);
    due(8, "count", x.node(0, 0, 0), 1);
    quiet(x);
    // OWNER with one TOKEN alone gives all
    x = fresh();
    x.set(0, 2);
    x.set(1, 2);
    own(x, 0, 0, 44);
    x.load(1, 0);
    x.deliver(0);
    message(8, x, 1, 0, 1, 3, 0, 1, 0, 44, 0, 0);
    quiet(x);
    has(8, x, 0, 0, 1, 1, 1, 44);
    x.evict(1, 0);
    quiet(x);
    has(8, x, HOME, 0, 1, 0, 0, NONE);
    x.load(1, 0);
    x.deliver(0);
    message(8, x, 1, 0, 1, 3, 0, 1, 1, 44, 0, 0);
    has(8, x, 0, 0, 0, 0, 0, NONE);
    x.deliver(0);
    due(8, "HOME is not OWNER", x.node(HOME, 0, 0), 1);
    x.deliver(0);
    has(8, x, 1, 0, 1, 1, 1, 44);
    due(8, "delivered", x.look(12) > 0, true);
  }

  private static void room() {
    CountedTokens x = fresh();
    x.set(2, 2);
    own(x, 0, 0, 10);
    own(x, 0, 1, 11);
    x.load(0, 0);
    due(8, "1 is used longest ago", x.node(0, 1, 6), 0);
    x.load(0, 2);
    quiet(x);
    has(8, x, 0, 1, 0, 0, 0, NONE);
    has(8, x, 0, 0, 8, 1, 1, 10);
    due(8, "place", x.node(0, 2, 6), 1);
    due(8, "4 ahead of 2", x.trace(1, 1), 4);
    due(8, "4 ahead of 2", x.trace(0, 1), 2);
    due(8, "EVICTIONS", x.look(11), 1);
    // TOKENS of a LINE that is not of its MISS go on to HOME as they came, from this CPU.
    // The second TOKEN of LINE 5 comes when 0 has evicted it for LINE 6
    x = fresh();
    x.set(2, 1);
    x.load(0, 5);
    x.tick(6);
    x.deliver(5);
    x.deliver(2);
    due(8, "two answers", x.look(13), 2);
    x.deliver(5);
    due(8, "ended", x.look(9), 1);
    x.load(0, 6);
    int k = x.look(6) - 1;
    due(8, "to HOME", x.message(k, 1), HOME);
    x.deliver(k);
    x.deliver(x.look(6) - 1);
    has(8, x, 0, 5, 0, 0, 0, NONE);
    has(8, x, 0, 6, 1, 0, 1, 0);
    for (int i = 0; i < x.look(6); i++) if (x.message(i, 2) == 3 && x.message(i, 1) == 0) k = i;
    int flow = x.flow(0, HOME, 0);
    due(8, "late TOKENS", x.deliver(k), 3);
    message(8, x, x.look(6) - 1, 0, HOME, 3, 5, 1, 0, 0, 0, 0);
    due(28, "trace 5", x.trace(0, 1), 5);
    due(28, "trace 5", x.trace(0, 3), 5);
    due(29, "flow", x.flow(0, HOME, 0), flow + 1);
    due(8, "not evicted", x.look(11), 1);
    quiet(x);
    has(8, x, HOME, 5, 8, 1, 1, 0);
  }

  private static void tick() {
    CountedTokens x = fresh();
    due(9, "tick(0)", x.tick(0), NONE);
    due(9, "tick(100)", x.tick(100), NONE);
    due(9, "tick(-1)", x.tick(-1), NONE);
    due(9, "tick(MAX)", x.tick(MAX), NONE);
    due(9, "tick(99)", x.tick(99), 99);
    due(9, "tick(1)", x.tick(1), 100);
    for (int i = 0; i < 99; i++) x.tick(99);
    due(9, "look(5)", x.look(5), 9901);
    due(9, "tick(99)", x.tick(99), NONE);
    due(9, "look(5)", x.look(5), 9901);
    due(9, "calm(60)", x.calm(60), 0);
    due(9, "tick(38)", x.tick(38), 9999);
    due(9, "tick(1)", x.tick(1), NONE);
    due(10, "calm(1)", x.calm(1), NONE);
    due(16, "go(1, 0)", x.go(1, 0), NONE);
    due(14, "three lines", Due.text(x, 6, "tick 1; calm 1; go 1 0; 0 load 0;"), 4);
    due(14, "run(4)", x.run(4), 1);
    due(14, "look(17)", x.look(17), 4);
    due(9, "look(5)", x.look(5), 9999);
  }

  private static void asking() {
    // PATIENCE, ISSUED, LATEST, then for good.
    CountedTokens x = fresh();
    x.set(4, 3);
    x.tick(5);
    x.store(1, 4, 9);
    int[] want = {4, 2, 9, 1, 5, 0};
    for (int w = 0; w < 6; w++) due(18, "miss(1, " + w + ")", x.miss(1, w), want[w]);
    x.tick(2);
    due(9, "not yet", x.look(6), 3);
    x.tick(1);
    due(9, "asks anew", x.look(6), 6);
    due(18, "ISSUED", x.miss(1, 3), 2);
    due(18, "LATEST", x.miss(1, 4), 8);
    due(28, "trace 6", x.trace(0, 1), 6);
    x.tick(3);
    due(18, "ISSUED", x.miss(1, 3), 3);
    x.tick(3);
    due(18, "ISSUED", x.miss(1, 3), 3);
    due(18, "FOR GOOD", x.miss(1, 5), 1);
    due(18, "LATEST stays", x.miss(1, 4), 11);
    due(28, "trace 3", x.trace(0, 1), 3);
    due(33, "look(10)", x.look(10), 1);
    message(20, x, 9, 1, 0, 4, 4, 0, 0, NONE, 1, 2);
    message(20, x, 10, 1, 2, 4, 4, 0, 0, NONE, 1, 2);
    message(20, x, 11, 1, 6, 4, 4, 0, 0, NONE, 1, 2);
    x.tick(40);
    due(9, "for good asks no more", x.look(6), 12);
    // HOME hears it: all goes
    due(8, "deliver(11)", x.deliver(11), 4);
    due(17, "THE TURN at HOME", x.node(HOME, 4, 4), 1);
    message(20, x, 11, 6, 1, 3, 4, 8, 1, 0, 0, 0);
    due(25, "turns", x.where(4, 6), 2);
    x.deliver(11);
    due(33, "ended", x.look(9), 1);
    // 5 to each other, HOME
    message(20, x, 11, 1, 0, 5, 4, 0, 0, NONE, 1, 0);
    message(20, x, 12, 1, 2, 5, 4, 0, 0, NONE, 1, 0);
    message(20, x, 13, 1, 6, 5, 4, 0, 0, NONE, 1, 0);
    int[] entry = {1, 0, 4, 2, 0};
    for (int w = 0; w < 5; w++) due(19, "table(1, 1, " + w + ")", x.table(1, 1, w), entry[w]);
    int[] home = {1, 1, 4, 2, 0};
    for (int w = 0; w < 5; w++) due(19, "table(6, 1, " + w + ")", x.table(HOME, 1, w), home[w]);
    due(8, "recall", x.deliver(13), 5);
    for (int w = 0; w < 5; w++) due(19, "table(6, 1, " + w + ")", x.table(HOME, 1, w), entry[w]);
    // at CPU 0 the recall comes ahead of what it recalls: that is nothing then (LINE, WHAT never told)
    due(8, "recall first", x.deliver(11), 5);
    int[] behind = {1, 0, 0, 0, 0};
    for (int w = 0; w < 5; w++) due(19, "table(0, 1, " + w + ")", x.table(0, 1, w), behind[w]);
    due(8, "then for good", x.deliver(9), 4);
    for (int w = 0; w < 5; w++) due(19, "table(0, 1, " + w + ")", x.table(0, 1, w), behind[w]);
    int[] cost = {0, 1, 49, 49, 1};
    for (int w = 0; w < 5; w++) due(26, "cost(1, " + w + ")", x.cost(1, w), cost[w]);
  }

  private static void turns() {
    // Two ask for good to write; the least has its turn; the other waits, is MARKED, then gets all.
    CountedTokens x = fresh();
    x.set(4, 1);
    x.set(3, 2);
    own(x, 2, 0, 100);
    x.store(1, 0, 1);
    x.store(0, 0, 2);
    x.tick(3);
    due(16, "both for good", x.look(10), 2);
    // throw away what asks: deliver kinds 1, 2 first; nobody has anything but 2, who hands on.
    for (int i = 0; i < x.look(6);) {
      if (x.message(i, 2) == 4) x.deliver(i); else i++;
    }
    for (int node : new int[] {0, 1, 2, HOME}) due(17, "turn at " + node, x.node(node, 0, 4), 0);
    // 2 heard of 0 or of 1 first: 1's 4 was sent in the same tick behind 0's
    due(25, "owner under way", x.where(0, 0), NONE);
    due(31, "worth under way", x.worth(0), 100);
    // as long as nobody hears the recall, TOKENS would go to and fro between 0 and 1 without end
    for (int i = 0; i < x.look(6) && x.look(9) < 2;) {
      if (x.message(i, 2) == 3) { x.deliver(i); i = 0; } else i++;
    }
    due(33, "one ended", x.look(9), 2);
    due(26, "it is that of 0", x.cost(0, 1), 1);
    due(19, "1 is MARKED at 0", x.table(0, 1, 4), 1);
    due(19, "0 is not MARKED at 1", x.table(1, 0, 4), 0);
    // 0 misses anew: it may not ask for good before 1 is through
    x.load(0, 0);
    int good = x.look(10);
    x.tick(20);
    due(9, "0 waits", x.look(10), good);
    due(18, "0 asks on", x.miss(0, 3), 3);
    x.calm(40);
    due(33, "all end", x.look(15), 0);
    due(21, "0 sees what 1 wrote", x.seen(0, 0), 1);
    due(31, "worth", x.worth(0), 1);
  }

  private static void readForGood() {
    // To read: all but one go, OWNER among them with DATA.
    CountedTokens x = fresh();
    x.set(4, 1);
    x.load(0, 3);
    x.tick(3);
    int last = x.look(6) - 1;
    due(20, "for good to read", x.message(last, 8), 1);
    x.deliver(last);
    has(9, x, HOME, 3, 1, 0, 1, 0);
    message(9, x, last, HOME, 0, 3, 3, 7, 1, 0, 0, 0);
    // while ACTIVE at HOME nobody is answered there
    x.load(1, 3);
    int k = x.look(6) - 1;
    due(8, "to HOME", x.message(k, 1), HOME);
    x.deliver(k);
    due(8, "nothing", x.look(6), k);
    has(9, x, HOME, 3, 1, 0, 1, 0);
    // one TOKEN, OWNER: it goes, with DATA
    CountedTokens y = fresh();
    y.set(0, 2);
    y.set(1, 2);
    own(y, 0, 0, 44);
    y.load(1, 0);
    quiet(y);
    y.evict(1, 0);
    quiet(y);
    has(9, y, 0, 0, 1, 1, 1, 44);
    y.set(4, 1);
    y.load(1, 0);
    y.tick(3);
    for (int i = 0; i < y.look(6); i++) if (y.message(i, 2) == 4 && y.message(i, 1) == 0) k = i;
    due(9, "for good to 0", y.deliver(k), 4);
    has(9, y, 0, 0, 0, 0, 0, NONE);
    message(9, y, y.look(6) - 1, 0, 1, 3, 0, 1, 1, 44, 0, 0);
    // one TOKEN, not OWNER: stays
    x.deliver(last);
    due(9, "ended", x.look(9), 1);
    has(9, x, 0, 3, 7, 1, 1, 0);
  }

  private static void calm() {
    CountedTokens x = fresh();
    due(10, "calm(0)", x.calm(0), NONE);
    due(10, "calm(61)", x.calm(61), NONE);
    due(10, "calm(-1)", x.calm(-1), NONE);
    due(10, "calm(MIN)", x.calm(MIN), NONE);
    due(10, "TICK", x.look(5), 0);
    due(10, "calm(60)", x.calm(60), 0);
    due(10, "TICK", x.look(5), 60);
    x.load(0, 0);
    x.store(1, 1, 3);
    due(10, "calm(1)", x.calm(1), 8);
    due(10, "TICK", x.look(5), 61);
    due(10, "MESSAGES", x.look(6), 0);
    due(10, "ended", x.look(9), 2);
  }

  private static void tape() {
    CountedTokens x = fresh();
    for (int i = 1; i <= 20; i++) due(11, "feed " + i, x.feed(0x20202020, 0x20202020, 0x20202020, 0x20202020, 0x20202020), 20 * i);
    due(11, "feed too many", x.feed(0, 0, 0, 0, 0), NONE);
    due(12, "end(401)", x.end(401), false);
    due(12, "end(-1)", x.end(-1), false);
    due(12, "end(MIN)", x.end(MIN), false);
    due(12, "end(400)", x.end(400), true);
    due(12, "end(381)", x.end(381), true);
    due(11, "feed 381", x.feed(0, 0, 0, 0, 0), NONE);
    due(12, "end(400)", x.end(400), false);
    due(12, "end(380)", x.end(380), true);
    due(11, "feed 380", x.feed(0, 0, 0, 0, 0), 400);
    due(13, "zeros can't stand there", x.text(0), NONE);
    due(15, "place", x.fault(1), 380);
    // the highest byte first: "load 1; load 2; rest"
    due(11, "feed", x.feed(0x6c6f6164, 0x20313b20, 0x6c6f6164, 0x20323b20, 0x72657374), 20);
    due(12, "end(16)", x.end(16), true);
    due(13, "text(0)", x.text(0), 2);
    due(12, "empty then", x.end(1), false);
    due(12, "end(0)", x.end(0), true);
  }

  /** A text with a FAULT. */
  private static void bad(int k, String s, int fault, int place) {
    CountedTokens x = fresh();
    Due.text(x, 0, "load 0; load 1;");
    Due.text(x, 6, "tick 1;");
    due(13, "text of <" + s + ">", Due.text(x, k, s), NONE);
    due(15, "fault(0) of <" + s + ">", x.fault(0), fault);
    due(15, "fault(1) of <" + s + ">", x.fault(1), place);
    due(13, "stays", x.program(0, 0), 2);
    due(13, "stays", x.look(16), 1);
    due(13, "empty then", x.end(1), false);
  }

  private static void good(int k, String s, int many) {
    CountedTokens x = fresh();
    due(13, "text of <" + s + ">", Due.text(x, k, s), many);
    due(15, "fault(0) of <" + s + ">", x.fault(0), 0);
    due(15, "fault(1) of <" + s + ">", x.fault(1), NONE);
    due(22, "how many", k == 6 ? x.look(16) : x.program(k, 0), many);
  }

  private static String times(int n, String s) { return s.repeat(n); }

  private static void programs() {
    good(0, "", 0);
    good(1, " \n ", 0);
    good(5, "load 0;", 1);
    good(0, "load0;store7 9999;add 0007 0000;rest9;", 4);
    good(0, "again 9 { }", 0);
    good(0, "again 2 { load 1; again 3 { rest 1; again 4 { add 1 1; } } }", 2 * (1 + 3 * (1 + 4)));
    good(0, "again 5{again 8{again 5{load 1;}}}", 200);
    good(2, times(57, "load0; "), 57);
    bad(0, "again 5{again 8{again 5{load 1;}}}load 1;", 4, 41);
    bad(0, "again 9{again 9{again 9{load 1;}}} ", 4, 35);
    bad(0, "again 9{again 9{again 9{load 1;}}}}", 1, 34);
    bad(0, "again 1{again 1{again 1{again 1{}}}}", 3, 24);
    bad(0, "again 1{again 1{again 1{ again", 3, 25);
    bad(0, "load", 1, 4);
    bad(0, "load  ", 1, 6);
    bad(0, "load 8;", 2, 5);
    bad(0, "load 12345;", 1, 5);
    bad(0, "load 9999;", 2, 5);
    bad(0, "load 8 8", 2, 5);
    bad(0, "load 1 1;", 1, 7);
    bad(0, "store 1;", 1, 7);
    bad(0, "store 1 10000;", 1, 8);
    bad(0, "rest 0;", 2, 5);
    bad(0, "rest 10;", 2, 5);
    bad(0, "again 0 {", 2, 6);
    bad(0, "again 10 {", 2, 6);
    bad(0, "again 1 load 1;", 1, 8);
    bad(0, "again 1 {", 1, 9);
    bad(0, "}", 1, 0);
    bad(0, ";", 1, 0);
    bad(0, "7", 1, 0);
    bad(0, "Load 1;", 1, 0);
    for (String letter : new String[] {"a", "s", "z", "A", "Z"}) bad(0, "load" + letter + " 1;", 1, 0);
    for (String other : new String[] {"@", "[", "`", "{", "/", ":", "\t"}) {
      bad(0, "load" + other + " 1;", 1, 4);
      bad(0, "load 1" + other + ";", 1, 6);
    }
    bad(0, "load 1;\tload 1;", 1, 7);
    bad(0, "load 1; evict 1;", 1, 8);
    bad(0, "load 1; tick 1;", 1, 8);
    bad(0, "load #", 1, 5);
    bad(0, "deliverlast", 1, 0);
    bad(3, "x", 1, 0);
    CountedTokens x = fresh();
    for (int k : new int[] {-1, 7, MIN, MAX}) {
      Due.text(x, 0, "x");
      due(15, "fault", x.fault(0), 1);
      Due.feed(x, "load 1;");
      due(13, "text(" + k + ")", x.text(k), NONE);
      due(15, "fault(0)", x.fault(0), 0);
      due(15, "fault(1)", x.fault(1), NONE);
      due(13, "empty then", x.end(1), false);
    }
    due(15, "fault(2)", x.fault(2), NONE);
    due(15, "fault(-1)", x.fault(-1), NONE);
  }

  private static void plans() {
    good(6, "", 0);
    good(6, "0 load 7; 5 store 0 9999; 3 add 1 0; 2evict 4;deliver 50;last 50;tick 99;calm 60;go 60 2;policy 3;", 10);
    good(6, times(24, "tick 1;"), 24);
    bad(6, times(24, "tick 1;") + "tick 1;", 3, 168);
    bad(6, times(24, "tick 1;") + " 5", 3, 169);
    bad(6, times(24, "tick 1;") + "policy", 3, 168);
    bad(6, times(24, "tick 1;") + "6 load 1;", 2, 168);
    bad(6, times(24, "tick 1;") + "load 1;", 1, 168);
    bad(6, times(24, "tick 1;") + ";", 1, 168);
    bad(6, "6 load 1;", 2, 0);
    bad(6, "0 rest 1;", 1, 2);
    bad(6, "again 1 {", 1, 0);
    bad(6, "load 1;", 1, 0);
    bad(6, "0 tick 1;", 1, 2);
    bad(6, "0 load 8;", 2, 7);
    bad(6, "0 load 1", 1, 8);
    bad(6, "0 load 1 tick 1;", 1, 9);
    bad(6, "deliver 0;", 2, 8);
    bad(6, "deliver 51;", 2, 8);
    bad(6, "last 51;", 2, 5);
    bad(6, "tick 100;", 2, 5);
    bad(6, "calm 61;", 2, 5);
    bad(6, "go 61 0;", 2, 3);
    bad(6, "go 1 3;", 2, 5);
    bad(6, "go 1;", 1, 4);
    bad(6, "policy 4;", 2, 7);
    bad(6, "12345 load 1;", 1, 0);
    bad(6, "0", 1, 1);
  }

  private static void run() {
    CountedTokens x = fresh();
    due(14, "run(0)", x.run(0), NONE);
    due(14, "run(25)", x.run(25), NONE);
    due(14, "run(-1)", x.run(-1), NONE);
    due(14, "nothing to run", x.run(24), 0);
    String plan = "deliver 1; last 1; 0 load 2; 0 load 3; 4 load 1; deliver 50; 0 evict 2; 0 evict 2; last 9; policy 2; 1 store 0 7; calm 2; tick 3; go 2 1; 1 add 0 1;";
    due(14, "lines", Due.text(x, 6, plan), 15);
    due(14, "deliver and last of none", x.run(2), 0);
    due(33, "look(17)", x.look(17), 2);
    due(14, "a MISS is not refused, a second is", x.run(3), 1);
    due(14, "deliver 50", x.run(1), 1);
    due(14, "all came", x.look(6), 0);
    due(14, "it ended", x.look(9), 1);
    due(14, "evict twice", x.run(2), 1);
    due(14, "last", x.run(1), 1);
    due(14, "policy", x.run(1), 1);
    due(33, "POLICY", x.look(3), 2);
    due(14, "fewer at the end", x.run(24), 5);
    due(33, "look(17)", x.look(17), 15);
    due(33, "look(16)", x.look(16), 15);
    due(33, "TICK", x.look(5), 7);
    due(14, "worth", x.worth(0), 8);
    due(14, "at its end", x.run(1), 0);
    due(13, "told anew", Due.text(x, 6, "tick 2;"), 1);
    due(33, "at its beginning", x.look(17), 0);
    due(14, "run", x.run(24), 1);
    due(33, "TICK", x.look(5), 9);
    // last: the last one each time
    x = fresh();
    x.load(0, 0);
    Due.text(x, 6, "last 2;");
    due(14, "last 2", x.run(1), 1);
    due(14, "the TOKEN came", x.look(9), 1);
    due(14, "the others stay", x.look(6), 2);
    due(20, "to 1", x.message(0, 1), 1);
  }

  private static void go() {
    CountedTokens x = fresh();
    int[][] bad = {{0, 0}, {61, 0}, {-1, 0}, {1, 3}, {1, -1}, {MAX, 0}, {MIN, MIN}};
    for (int[] b : bad) due(16, "go of wrong", x.go(b[0], b[1]), NONE);
    due(16, "TICK", x.look(5), 0);
    due(16, "go(60, 0)", x.go(60, 0), 0);
    due(16, "TICK", x.look(5), 60);
    x = fresh();
    Due.text(x, 0, "load 0; rest 3; store 0 5; add 0 1;");
    Due.text(x, 4, "load 1;");
    due(16, "go(1, 0)", x.go(1, 0), 0);
    due(22, "begun", x.program(0, 1), 1);
    due(16, "three delivered, one new", x.look(6), 1);
    due(16, "go(1, 0)", x.go(1, 0), 1);
    due(22, "begun", x.program(0, 1), 1);
    due(16, "go(1, 0)", x.go(1, 0), 0);
    due(22, "rest begun", x.program(0, 1), 2);
    due(22, "rests till", x.program(0, 2), 5);
    x.go(2, 0);
    due(22, "it rests", x.program(0, 1), 2);
    due(16, "TICK", x.look(5), 5);
    due(16, "go(2, 0)", x.go(2, 0), 1);
    due(22, "store begun", x.program(0, 1), 3);
    due(16, "go(60, 2)", x.go(60, 2), 0);
    due(22, "add done", x.program(0, 1), 4);
    due(16, "worth", x.worth(0), 6);
    due(16, "HITS", x.look(8), 1);
    due(22, "of one that is not there", x.program(4, 1), 0);
    due(22, "program(6, 0)", x.program(6, 0), NONE);
    due(22, "program(-1, 0)", x.program(-1, 0), NONE);
    due(22, "program(0, 3)", x.program(0, 3), NONE);
    due(22, "program(0, -1)", x.program(0, -1), NONE);
    due(22, "never yet", x.program(1, 2), 0);
    due(13, "told anew", Due.text(x, 0, "load 3;"), 1);
    due(22, "from the first on", x.program(0, 1), 0);
    // ORDER 1: the last each time
    x = fresh();
    Due.text(x, 0, "load 0;");
    due(16, "go(1, 1)", x.go(1, 1), 1);
    due(16, "one stays", x.look(6), 1);
    due(16, "to 1", x.message(0, 1), 1);
    // those of again in order
    x = fresh();
    Due.text(x, 0, "again 2 { add 0 1; again 2 { add 0 10; } }");
    x.calm(1);
    x.go(60, 0);
    due(16, "worth", x.worth(0), 42);
    int[] seen = {0, 1, 11, 21, 22, 32};
    due(21, "seen", x.seen(0, NONE), 6);
    for (int i = 0; i < 6; i++) due(21, "seen " + i, x.seen(0, i), seen[i]);
  }

  private static void node() {
    CountedTokens x = fresh();
    int[][] none = {{3, 0, 0}, {5, 0, 0}, {7, 0, 0}, {-1, 0, 0}, {0, 8, 0}, {0, -1, 0}, {0, 0, 7}, {0, 0, -1}, {HOME, 0, 7}, {MAX, MIN, MAX}};
    for (int[] b : none) due(17, "node of wrong", x.node(b[0], b[1], b[2]), NONE - 1);
    for (int l = 0; l < 8; l++) {
      due(17, "TURN", x.node(0, l, 4), NONE);
      due(17, "HINT", x.node(HOME, l, 5), NONE);
      due(17, "place", x.node(HOME, l, 6), NONE);
      due(17, "place", x.node(0, l, 6), NONE);
    }
    x.set(2, 8);
    for (int l = 7; l >= 0; l--) own(x, 1, l, l);
    for (int l = 0; l < 8; l++) due(17, "place of " + l, x.node(1, l, 6), 7 - l);
    x.load(1, 7);
    due(17, "used last", x.node(1, 7, 6), 7);
    due(17, "used longest ago", x.node(1, 6, 6), 0);
    x.store(1, 6, 9);
    due(17, "used last", x.node(1, 6, 6), 7);
    x.add(1, 5, 9);
    due(17, "used last", x.node(1, 5, 6), 7);
    x.store(2, 0, 1);
    quiet(x);
    due(17, "gone", x.node(1, 0, 6), NONE);
    due(17, "HINT", x.node(1, 0, 5), 2);
    due(17, "HINT of who got TOKENS", x.node(2, 0, 5), 1);
    x.evict(2, 0);
    quiet(x);
    own(x, 0, 0, 1);
    due(17, "HINT none by HOME", x.node(0, 0, 5), NONE);
    due(17, "HINT by who asks to write", x.node(2, 0, 5), 0);
    x.load(2, 0);
    quiet(x);
    due(17, "HINT not by who reads", x.node(1, 0, 5), 0);
  }

  private static void missAndTable() {
    CountedTokens x = fresh();
    for (int w = 0; w < 6; w++) due(18, "no MISS", x.miss(0, w), NONE);
    x.load(0, 7);
    int[] want = {7, 1, 0, 1, 0, 0};
    for (int w = 0; w < 6; w++) due(18, "miss(0, " + w + ")", x.miss(0, w), want[w]);
    x.add(1, 6, 5);
    due(18, "WHAT", x.miss(1, 1), 3);
    due(18, "v", x.miss(1, 2), 5);
    int[][] bad = {{0, 6}, {0, -1}, {3, 0}, {-1, 0}, {6, 0}, {MAX, 0}};
    for (int[] b : bad) due(18, "miss of wrong", x.miss(b[0], b[1]), NONE);
    for (int w = 0; w < 5; w++) {
      due(19, "at first", x.table(HOME, 2, w), 0);
      due(19, "at first", x.table(2, 2, w), 0);
    }
    int[][] none = {{3, 0, 0}, {0, 3, 0}, {0, 6, 0}, {7, 0, 0}, {-1, 0, 0}, {0, -1, 0}, {0, 0, 5}, {0, 0, -1}};
    for (int[] b : none) due(19, "table of wrong", x.table(b[0], b[1], b[2]), NONE);
    int[][] wrong = {{-1, 0}, {6, 0}, {0, 9}, {0, -1}, {MAX, 0}};
    due(20, "MESSAGES", x.look(6), 6);
    for (int[] b : wrong) due(20, "message of wrong", x.message(b[0], b[1]), NONE - 1);
  }

  private static void policies() {
    // 1: the HINT, HOME
    CountedTokens x = fresh();
    x.set(3, 1);
    own(x, 0, 0, 1);
    due(4, "HOME alone without a HINT", x.flow(0, 1, 0) + x.flow(0, 2, 0), 0);
    own(x, 1, 0, 2);
    due(4, "it never came to 0", x.look(15), 1);
    x.set(3, 0);
    x.set(4, 1);
    x.tick(1);
    quiet(x);
    due(4, "by 0", x.look(15), 0);
    due(17, "HINT of 0", x.node(0, 0, 5), 1);
    x.set(3, 1);
    x.set(4, 20);
    x.load(0, 0);
    due(4, "two asked", x.look(6), 2);
    due(4, "the HINT", x.message(0, 1), 1);
    due(4, "HOME", x.message(1, 1), HOME);
    // 2: HOME first, then all
    x = fresh();
    x.set(3, 2);
    x.set(4, 2);
    x.load(1, 0);
    due(4, "HOME alone", x.look(6), 1);
    x.tick(2);
    due(4, "all", x.look(6), 4);
    due(4, "to 0", x.message(1, 1), 0);
    due(4, "to 2", x.message(2, 1), 2);
    due(4, "to HOME", x.message(3, 1), HOME);
    // 3: the GROUP, HOME; then all; GROUPS are empty at TICKS that are multiples of 16
    x = fresh();
    x.set(0, 5);
    x.load(3, 0);
    quiet(x);
    x.load(1, 0);
    quiet(x);
    due(27, "group(0, 0)", x.group(0, 0), 10);
    due(27, "group(3, 0)", x.group(3, 0), 2);
    x.set(3, 3);
    x.set(4, 2);
    x.load(0, 0);
    due(4, "three asked", x.look(6), 3);
    due(4, "to 1", x.message(0, 1), 1);
    due(4, "to 3", x.message(1, 1), 3);
    due(4, "to HOME", x.message(2, 1), HOME);
    quiet(x);
    x.tick(15);
    due(27, "group(0, 0)", x.group(0, 0), 10);
    x.tick(1);
    due(27, "group(0, 0)", x.group(0, 0), 0);
    due(27, "group(3, 0)", x.group(3, 0), 0);
    x.load(2, 0);
    due(4, "HOME alone", x.look(6), 1);
    x.tick(2);
    due(4, "all", x.look(6), 6);
    due(27, "group(5, 0)", x.group(5, 0), NONE);
    due(27, "group(-1, 0)", x.group(-1, 0), NONE);
    due(27, "group(6, 0)", x.group(6, 0), NONE);
    due(27, "group(0, 8)", x.group(0, 8), NONE);
    due(27, "group(0, -1)", x.group(0, -1), NONE);
  }

  private static void dropped() {
    CountedTokens x = fresh();
    x.set(0, 6);
    x.set(4, 1);
    for (int c = 0; c < 5; c++) x.store(c, c, 1);
    due(33, "30", x.look(6), 30);
    x.tick(1);
    due(33, "60", x.look(6), 60);
    due(33, "none DROPPED", x.look(7), 0);
    x.load(5, 5);
    due(33, "60", x.look(6), 60);
    due(33, "DROPPED", x.look(7), 6);
    due(29, "DROPPED is not sent", x.flow(5, HOME, 0), 0);
    x.deliver(0);
    x.tick(1);
    due(33, "all but one DROPPED", x.look(7), 6 + 5 * 6 + 6 - 1);
    due(33, "60", x.look(6), 60);
    due(20, "the one", x.message(59, 0), 0);
  }

  private static void seen() {
    CountedTokens x = fresh();
    own(x, 0, 0, 0);
    for (int i = 0; i < 65; i++) x.add(0, 0, 1);
    due(21, "60 alone", x.seen(0, NONE), 60);
    due(21, "the first", x.seen(0, 0), 0);
    due(21, "the last", x.seen(0, 59), 59);
    due(21, "no more", x.seen(0, 60), NONE);
    due(21, "i -2", x.seen(0, -2), NONE);
    due(21, "i MIN", x.seen(0, MIN), NONE);
    due(21, "cpu 3", x.seen(3, NONE), NONE);
    due(21, "cpu -1", x.seen(-1, NONE), NONE);
    due(21, "cpu 6", x.seen(HOME, NONE), NONE);
    due(21, "none", x.seen(1, 0), NONE);
    due(26, "HITS", x.cost(0, 0), 65);
  }

  private static void soonAndWalk() {
    CountedTokens x = fresh();
    due(23, "none", x.soon(0), 0);
    due(23, "soon(3)", x.soon(3), NONE);
    due(23, "soon(-1)", x.soon(-1), NONE);
    due(23, "soon(6)", x.soon(6), NONE);
    x.store(0, 0, 1);
    due(23, "soon(0)", x.soon(0), 1);
    due(23, "soon(1)", x.soon(1), 0);
    due(23, "nothing of it stays", x.look(6), 3);
    due(23, "nothing of it stays", x.look(5), 0);
    int[] walk = {12, 1, 0, 4, 0};
    for (int w = 0; w < 5; w++) due(24, "walk(" + w + ")", x.walk(w), walk[w]);
    due(24, "walk(5)", x.walk(5), NONE);
    due(24, "walk(-1)", x.walk(-1), NONE);
    due(24, "nothing of it stays", x.look(12), 0);
    due(24, "nothing of it stays", x.look(18), 1);
    // HOME's part alone: ask, TOKENS under way, there
    x = fresh();
    x.set(3, 2);
    x.store(0, 0, 1);
    int[] three = {3, 1, 0, 2, 0};
    for (int w = 0; w < 5; w++) due(24, "walk(" + w + ")", x.walk(w), three[w]);
    x.deliver(0);
    due(24, "walk(0) anew", x.walk(0), 2);
    x.deliver(0);
    due(24, "walk(0) anew", x.walk(0), 1);
    due(24, "walk(3)", x.walk(3), 0);
    // nobody answers: a MISS stays
    x.set(3, 2);
    x.load(1, 0);
    x.deliver(0);
    due(24, "no MESSAGES", x.look(6), 0);
    due(24, "a MISS", x.walk(2), 1);
    due(23, "soon: six TICKS, then 0 is asked", x.soon(1), 7);
    // two alike MESSAGES are one STATE whichever comes
    x = fresh();
    x.set(3, 2);
    x.load(0, 0);
    x.set(3, 1);
    x.tick(6);
    due(24, "two alike", x.look(6), 2);
    // both asked, one answered, both answered, .. : (asks, TOKENS under way, there): 6 STATES
    due(24, "walk(0)", x.walk(0), 6);
    due(24, "walk(3)", x.walk(3), 4);
    // 250 STATES, 251
    x = fresh();
    x.set(0, 2);
    x.set(3, 1);
    x.set(4, 1);
    x.load(0, 1);
    x.deliver(0);
    x.tick(3);
    x.deliver(0);
    int[] most = {250, 4, 0, 7, 0};
    for (int w = 0; w < 5; w++) due(24, "walk(" + w + ") of 250", x.walk(w), most[w]);
    x = fresh();
    x.set(0, 2);
    x.set(3, 1);
    x.set(4, 1);
    x.set(1, 4);
    x.set(2, 3);
    x.load(1, 0);
    x.load(0, 0);
    x.tick(2);
    for (int w = 0; w < 5; w++) due(24, "walk(" + w + ") of 251", x.walk(w), NONE);
    // 24 MESSAGES, 25: two recalls, and one asks HOME, which has none of it, again and again
    x = fresh();
    x.set(0, 2);
    x.set(3, 1);
    x.set(4, 1);
    own(x, 1, 3, 1);
    x.store(0, 0, 1);
    x.tick(3);
    for (int i = 0; i < x.look(6);) if (x.message(i, 2) != 5) x.deliver(i); else i++;
    due(24, "the recalls", x.look(6), 2);
    x.load(0, 3);
    x.tick(21);
    due(24, "24 on their way", x.look(6), 24);
    int[] alike = {92, 1, 1, 24, 0};
    for (int w = 0; w < 5; w++) due(24, "walk(" + w + ") of 24", x.walk(w), alike[w]);
    x.tick(1);
    for (int w = 0; w < 5; w++) due(24, "walk(" + w + ") of 25", x.walk(w), NONE);
    x.deliver(24);
    for (int w = 0; w < 5; w++) due(24, "walk(" + w + ") of 24", x.walk(w), alike[w]);
    // more of both
    x = fresh();
    x.set(0, 6);
    for (int c = 0; c < 4; c++) x.load(c, c);
    due(24, "24 on their way", x.look(6), 24);
    x.load(4, 4);
    for (int w = 0; w < 5; w++) due(24, "too many", x.walk(w), NONE);
    // more than 250 STATES
    x = fresh();
    x.load(0, 0);
    x.load(1, 1);
    x.load(2, 2);
    for (int w = 0; w < 5; w++) due(24, "too many", x.walk(w), NONE);
    x = fresh();
    x.load(0, 0);
    x.load(1, 1);
    due(24, "12 times 12", x.walk(0), 144);
    due(24, "walk(3)", x.walk(3), 8);
    // SOON of one that needs to ask for good counts TICKS
    x = fresh();
    x.set(4, 20);
    x.set(3, 2);
    own(x, 0, 0, 1);
    x.set(3, 1);
    x.load(1, 0);
    x.deliver(0);
    due(23, "only for good", x.soon(1), NONE);
    x.tick(1);
    due(23, "only for good", x.soon(1), 60);
    x.set(4, 19);
    due(23, "only for good", x.soon(1), 57);
  }

  private static void comeBack() {
    // Both are through with a MISS for good, but neither has heard so of the other: at 1 it is 0's
    // TURN, at 0 it is 1's, so that TOKENS go to and fro as long as the recalls are under way.
    CountedTokens x = fresh();
    x.set(0, 2);
    x.set(3, 2);
    x.set(4, 1);
    x.store(0, 0, 1);
    x.store(1, 0, 2);
    x.tick(3);
    due(24, "both for good", x.look(10), 2);
    for (int kind : new int[] {1, 2, 4}) {
      for (int i = 0; i < x.look(6);) {
        if (x.message(i, 2) == kind) x.deliver(i); else i++;
      }
    }
    for (int i = 0; i < x.look(6) && x.look(9) < 2;) {
      if (x.message(i, 2) == 3) { x.deliver(i); i = 0; } else i++;
    }
    due(24, "four recalls, TOKENS", x.look(6), 5);
    due(24, "one can come back", x.walk(4), 1);
    due(24, "it can end", x.walk(1) > 0, true);
    due(24, "without a MISS", x.walk(2), 0);
    due(24, "one delivery each, TOKENS once at least", x.walk(3), 5);
    for (int i = 0; i < x.look(6);) {
      if (x.message(i, 2) == 5) x.deliver(i); else i++;
    }
    due(24, "TOKENS alone", x.walk(0), 2);
    due(24, "none can come back", x.walk(4), 0);
  }

  private static void where() {
    CountedTokens x = fresh();
    int[] first = {HOME, 0, NONE, 1, 0, 0, 0};
    for (int w = 0; w < 7; w++) due(25, "where(3, " + w + ")", x.where(3, w), first[w]);
    x.load(0, 3);
    x.load(2, 3);
    due(25, "MISSES", x.where(3, 5), 5);
    due(25, "other LINE", x.where(2, 5), 0);
    quiet(x);
    int[] then = {HOME, 5, NONE, 3, 0, 0, 0};
    for (int w = 0; w < 7; w++) due(25, "where(3, " + w + ")", x.where(3, w), then[w]);
    own(x, 1, 3, 5);
    int[] owned = {1, 2, 1, 1, 0, 0, 0};
    for (int w = 0; w < 7; w++) due(25, "where(3, " + w + ")", x.where(3, w), owned[w]);
    x.evict(1, 3);
    int[] way = {NONE, 0, NONE, 0, 8, 0, 0};
    for (int w = 0; w < 7; w++) due(25, "where(3, " + w + ")", x.where(3, w), way[w]);
    due(31, "worth under way", x.worth(3), 5);
    due(33, "TOKENS under way", x.look(13), 8);
    int[][] bad = {{8, 0}, {-1, 0}, {0, 7}, {0, -1}, {MAX, MIN}};
    for (int[] b : bad) due(25, "where of wrong", x.where(b[0], b[1]), NONE - 1);
  }

  private static void costs() {
    CountedTokens x = fresh();
    x.load(0, 0);
    x.tick(4);
    quiet(x);
    x.load(0, 1);
    x.tick(2);
    quiet(x);
    x.load(0, 0);
    int[] want = {1, 2, 6, 4, 0};
    for (int w = 0; w < 5; w++) due(26, "cost(0, " + w + ")", x.cost(0, w), want[w]);
    due(26, "not there", x.cost(5, 0), 0);
    int[][] bad = {{6, 0}, {-1, 0}, {0, 5}, {0, -1}, {MAX, 0}};
    for (int[] b : bad) due(26, "cost of wrong", x.cost(b[0], b[1]), NONE);
  }

  private static void trace() {
    CountedTokens x = fresh();
    due(28, "none", x.trace(0, 0), NONE);
    x.tick(3);
    x.load(1, 6);
    quiet(x);
    int[][] want = {{3, 2, 1, 6}, {3, 1, 1, 6}};
    for (int i = 0; i < 2; i++) for (int w = 0; w < 4; w++) due(28, "trace(" + i + ", " + w + ")", x.trace(i, w), want[i][w]);
    due(28, "no more", x.trace(2, 0), NONE);
    int[][] bad = {{-1, 0}, {0, 4}, {0, -1}, {100, 0}, {MAX, 0}, {MIN, 0}};
    for (int[] b : bad) due(28, "trace of wrong", x.trace(b[0], b[1]), NONE);
    for (int i = 0; i < 120; i++) {
      x.tick(1);
      x.load(1, 6);
    }
    due(33, "all that came", x.look(18), 122);
    due(28, "latest", x.trace(0, 0), 123);
    due(28, "oldest", x.trace(99, 0), 24);
    due(28, "a hit", x.trace(99, 1), 0);
    due(28, "100 alone", x.trace(100, 0), NONE);
  }

  private static void flow() {
    CountedTokens x = fresh();
    own(x, 0, 0, 5);
    int[] asked = {1, 0, 0};
    int[] answered = {1, 8, 1};
    for (int w = 0; w < 3; w++) {
      due(29, "flow(0, 1)", x.flow(0, 1, w), asked[w]);
      due(29, "flow(0, 6)", x.flow(0, HOME, w), asked[w]);
      due(29, "flow(6, 0)", x.flow(HOME, 0, w), answered[w]);
      due(29, "flow(5, 5)", x.flow(5, 5, w), 0);
    }
    x.load(1, 0);
    quiet(x);
    x.evict(1, 0);
    int[] evicted = {2, 1, 0};
    for (int w = 0; w < 3; w++) due(29, "flow(1, 6)", x.flow(1, HOME, w), evicted[w]);
    int[][] bad = {{7, 0, 0}, {0, 7, 0}, {-1, 0, 0}, {0, -1, 0}, {0, 0, 3}, {0, 0, -1}, {MAX, MIN, 0}};
    for (int[] b : bad) due(29, "flow of wrong", x.flow(b[0], b[1], b[2]), NONE);
  }

  private static void canAndWorth() {
    CountedTokens x = fresh();
    due(30, "none", x.can(0, 0), 0);
    own(x, 0, 0, 5);
    due(30, "all", x.can(0, 0), 2);
    x.load(1, 0);
    quiet(x);
    due(30, "one", x.can(1, 0), 1);
    due(30, "seven", x.can(0, 0), 1);
    int[][] bad = {{3, 0}, {-1, 0}, {6, 0}, {0, 8}, {0, -1}};
    for (int[] b : bad) due(30, "can of wrong", x.can(b[0], b[1]), NONE);
    due(31, "worth", x.worth(0), 5);
    due(31, "worth(8)", x.worth(8), NONE);
    due(31, "worth(-1)", x.worth(-1), NONE);
    due(31, "worth(MAX)", x.worth(MAX), NONE);
  }

  private static void image() {
    CountedTokens x = fresh();
    due(32, "none", x.image(false), false);
    x.set(0, 4);
    x.state(77);
    own(x, 0, 0, 5);
    x.load(1, 0);
    Due.text(x, 2, "load 2; load 3;");
    Due.text(x, 6, "tick 1; tick 2;");
    x.run(1);
    due(32, "taken", x.image(true), true);
    for (int i = 0; i < 2; i++) {
      x.state(5);
      x.calm(9);
      x.go(20, 2);
      x.evict(0, 0);
      x.run(1);
      x.set(2, 7);
      x.set(3, 1);
      x.set(4, 9);
      Due.text(x, 2, "");
      Due.text(x, 6, "");
      Due.text(x, 0, "?");
      Due.feed(x, "load 7;");
      due(32, "gone back", x.image(false), true);
      int[] look = {4, 8, 4, 0, 6, 1, 4, 0, 0, 1, 0, 0, 5, 0, 77, 1, 2, 1, 3};
      for (int w = 0; w < look.length; w++) due(32, "look(" + w + ")", x.look(w), look[w]);
      due(32, "PROGRAM", x.program(2, 0), 2);
      due(32, "none done", x.program(2, 1), 0);
      due(32, "soon", x.soon(1), 1);
      has(32, x, 0, 0, 8, 1, 1, 5);
      due(32, "fault() is not in it", x.fault(0), 1);
      due(32, "the TAPE is not in it", x.end(7), true);
      x.end(0);
    }
    // what was counted and seen is in it, too
    x = fresh();
    x.set(0, 6);
    x.set(4, 1);
    own(x, 0, 0, 8);
    x.add(0, 0, 1);
    x.add(0, 0, 2);
    for (int c = 0; c < 6; c++) x.store(c, 1 + c, 1);
    x.tick(1);
    int dropped = x.look(7);
    int sent = x.flow(1, HOME, 0);
    due(32, "DROPPED", dropped > 0, true);
    x.image(true);
    x.tick(1);
    quiet(x);
    for (int i = 0; i < 30; i++) x.load(0, 0);
    x.image(false);
    due(32, "DROPPED", x.look(7), dropped);
    due(32, "SEEN", x.seen(0, NONE), 2);
    due(32, "sent", x.flow(1, HOME, 0), sent);
    for (int i = 0; i < 30; i++) x.evict(0, 0);
    x.image(false);
    due(32, "EVICTIONS", x.look(11), 0);
    due(32, "trace", x.trace(0, 1), 6);
    due(32, "SEEN", x.seen(0, 1), 9);
    quiet(x);
    for (int i = 0; i < 30; i++) x.add(0, 0, 7);
    x.image(true);
    x.image(false);
    due(32, "SEEN", x.seen(0, 2), 11);
    x = fresh();
    due(32, "taken anew", x.image(true), true);
    x.tick(1);
    x.image(false);
    due(32, "TICK", x.look(5), 0);
  }

  private static void look() {
    CountedTokens x = fresh();
    for (int w : new int[] {19, -1, 100, MIN, MAX}) due(33, "look(" + w + ")", x.look(w), NONE - 99999);
    x.load(0, 0);
    x.store(2, 0, 1);
    due(33, "MISSES", x.look(15), 2);
    x.state(NONE - 99999);
    due(33, "14 as it is", x.look(14), -100000);
  }

  public static void main(String[] args) {
    newObject();
    state();
    drawsPick();
    set();
    load();
    store();
    add();
    evict();
    deliver();
    room();
    tick();
    asking();
    turns();
    readForGood();
    calm();
    tape();
    programs();
    plans();
    run();
    go();
    node();
    missAndTable();
    policies();
    dropped();
    seen();
    soonAndWalk();
    comeBack();
    where();
    costs();
    trace();
    flow();
    canAndWorth();
    image();
    look();
    Due.close("PromisesTest");
  }
}
