/** The boundary cases that the Terms 0 to 3 name, each by itself: draws, TOKENS, asking, asking for good. */
public final class TermEdgesTest {
  private static final int NONE = Edges.NONE;
  private static final int HOME = Edges.HOME;
  private static final int MIN = Edges.MIN;
  private static final int MAX = Edges.MAX;

  private static void is(String call, int got, int due) { Edges.is(call, got, due); }
  private static void is(String call, boolean got, boolean due) { Edges.is(call, got, due); }
  private static void has(CountedTokens x, int node, int line, int... four) { Edges.has(x, node, line, four); }
  private static void letter(CountedTokens x, int i, int... nine) { Edges.letter(x, i, nine); }
  private static void entry(CountedTokens x, int node, int cpu, int... five) { Edges.entry(x, node, cpu, five); }
  private static void row(CountedTokens x, int... kindAndTo) { Edges.row(x, kindAndTo); }
  private static void come(CountedTokens x, int from, int to, int kind) { Edges.come(x, from, to, kind); }
  private static CountedTokens fresh() { return Edges.fresh(); }
  private static CountedTokens fresh(int n, int t) { return Edges.fresh(n, t); }
  private static void own(CountedTokens x, int cpu, int line, int v) { Edges.own(x, cpu, line, v); }
  private static void read(CountedTokens x, int cpu, int line) { Edges.read(x, cpu, line); }
  private static void quiet(CountedTokens x) { Edges.quiet(x); }
  private static void forGood(CountedTokens x) { Edges.forGood(x); }
  private static int last(CountedTokens x) { return x.look(6) - 1; }

  // ---- ahead of the Terms, and draws

  @Says(in = "W", value = "An object is used for at most 512 calls after it has been made")
  static void w_the512thCallIsAnswered() {
    CountedTokens x = fresh();
    for (int i = 1; i < 512; i++) x.tick(1);
    is("the 512th call", x.tick(1), 512);
  }

  /** Five MESSAGES that cause none, to the CPUS 1 to 5. */
  private static CountedTokens fiveOnTheirWay() {
    CountedTokens x = fresh(6, 8);
    x.load(0, 0);
    come(x, 0, HOME, 1);
    come(x, HOME, 0, 3);
    row(x, 11, 12, 13, 14, 15);
    return x;
  }

  @Says(in = "T0", value = "STATE of draws (an int, 0 at first)")
  static void t0_stateIsZeroAtFirst() {
    CountedTokens x = fresh();
    is("look(14)", x.look(14), 0);
    is("state(1)", x.state(1), 0);
    x = fiveOnTheirWay();
    x.go(1, 2);
    int s = 1013904223;
    s = 1664525 * s + 1013904223;
    s = 1664525 * s + 1013904223;
    is("three DRAWS from 0", x.look(14), s);
  }

  @Says(in = "T0", value = "it becomes 1664525 times itself + 1013904223 (ints, which wrap)")
  static void t0_drawsWrap() {
    for (int from : new int[] {MAX, MIN, -1, 1, 1 << 30}) {
      CountedTokens x = fiveOnTheirWay();
      for (int i = 0; i < 4; i++) x.deliver(0);
      x.state(from);
      x.go(1, 2);
      is("one DRAW", x.look(14), (int) (1664525L * from + 1013904223L));
    }
  }

  @Says(in = "T0", value = "then it is its highest 24 bits (without sign) modulo m")
  static void t0_highest24BitsWithoutSign() {
    for (int from : new int[] {0, 1, 2, 5, -1, MIN, MAX, 77777, -123456789}) {
      CountedTokens x = fiveOnTheirWay();
      x.state(from);
      java.util.List<Integer> to = new java.util.ArrayList<>(java.util.List.of(1, 2, 3, 4, 5));
      long s = from;
      for (int m = 5; m > 2; m--) {
        s = (1664525 * s + 1013904223) & 0xffffffffL;
        to.remove((int) (s / 256 % m));
      }
      x.go(1, 2);
      is("MESSAGES", x.look(6), 2);
      is("the first that stays, from " + from, x.message(0, 1), to.get(0));
      is("the second that stays, from " + from, x.message(1, 1), to.get(1));
    }
  }

  // ---- Terms 1

  @Says(in = "T1", value = "CPUS 0 .. n less 1 (n 3 at first; 2 .. 6 can be told)")
  static void t1_cpus() {
    CountedTokens x = fresh();
    is("n", x.look(0), 3);
    is("load(2, 0)", x.load(2, 0), NONE);
    is("load(3, 0)", x.load(3, 0), NONE - 1);
    is("load(-1, 0)", x.load(-1, 0), NONE - 1);
    for (int n = 2; n <= 6; n++) {
      x = fresh();
      is("set(0, " + n + ")", x.set(0, n), true);
      is("n", x.look(0), n);
      is("the last CPU", x.load(n - 1, 0), NONE);
      is("behind it", x.load(n, 0), NONE - 1);
      is("each other and HOME are asked", x.look(6), n);
    }
    x = fresh();
    is("set(0, 1)", x.set(0, 1), false);
    is("set(0, 7)", x.set(0, 7), false);
    is("n", x.look(0), 3);
  }

  @Says(in = "T1", value = "TOKENS t (8 at first; n .. 12 can be told) are there of each LINE")
  static void t1_tokens() {
    CountedTokens x = fresh();
    is("t", x.look(1), 8);
    is("t 3, which is n", x.set(1, 3), true);
    is("t 2, below n", x.set(1, 2), false);
    is("t 12", x.set(1, 12), true);
    is("t 13", x.set(1, 13), false);
    for (int l = 0; l < 8; l++) has(x, HOME, l, 12, 1, 1, 0);
    own(x, 2, 7, 5);
    has(x, 2, 7, 12, 1, 1, 5);
    x = fresh(6, 6);
    for (int c = 0; c < 6; c++) read(x, c, 0);
    for (int c = 0; c < 6; c++) is("each has one", x.node(c, 0, 0), 1);
    has(x, HOME, 0, 0, 0, 0, NONE);
    is("the OWNER token went last", x.where(0, 0), 5);
  }

  @Says(in = "T1", value = "LINES 0 .. 7")
  static void t1_lines() {
    CountedTokens x = fresh();
    is("load(0, 0)", x.load(0, 0), NONE);
    is("load(1, 7)", x.load(1, 7), NONE);
    is("load(2, 8)", x.load(2, 8), NONE - 1);
    is("load(2, -1)", x.load(2, -1), NONE - 1);
    is("no MISS of it", x.miss(2, 0), NONE);
  }

  @Says(in = "T1", value = "one of them its OWNER token")
  static void t1_oneOwner() {
    CountedTokens x = fresh();
    read(x, 0, 0);
    read(x, 1, 0);
    is("HOME keeps it", x.node(HOME, 0, 1), 1);
    is("not 0", x.node(0, 0, 1), 0);
    is("not 1", x.node(1, 0, 1), 0);
  }

  @Says(in = "T1", value = "where COUNT is 0, VALID is 0")
  static void t1_noneIsNotValid() {
    CountedTokens x = fresh();
    own(x, 0, 0, 5);
    has(x, HOME, 0, 0, 0, 0, NONE);
    x.evict(0, 0);
    has(x, 0, 0, 0, 0, 0, NONE);
    x.deliver(0);
    read(x, 1, 0);
    has(x, 1, 0, 1, 0, 1, 5);
    x.store(2, 0, 6);
    come(x, 2, 1, 2);
    has(x, 1, 0, 0, 0, 0, NONE);
  }

  @Says(in = "T1", value = "a CPU that has TOKENS can be not VALID")
  static void t1_tokensWithoutData() {
    CountedTokens x = fresh();
    read(x, 2, 0);
    x.store(0, 0, 5);
    come(x, 0, 2, 2);
    come(x, 2, 0, 3);
    has(x, 0, 0, 1, 0, 0, NONE);
    is("can", x.can(0, 0), 0);
    is("no CPU could LOAD", x.where(0, 1), 0);
  }

  @Says(in = "T1", value = "DATA 0 .. 9999 (VALID alone")
  static void t1_dataWhereItIsValid() {
    CountedTokens x = fresh();
    own(x, 0, 0, 9999);
    is("9999", x.node(0, 0, 3), 9999);
    x.store(0, 0, 0);
    is("0", x.node(0, 0, 3), 0);
    read(x, 1, 0);
    x.evict(1, 0);
    quiet(x);
    is("VALID", x.node(HOME, 0, 2), 0);
    is("DATA", x.node(HOME, 0, 3), NONE);
  }

  @Says(in = "T1", value = "At first HOME has all, VALID, DATA 0.")
  static void t1_homeHasAll() {
    CountedTokens x = fresh();
    for (int l = 0; l < 8; l++) {
      has(x, HOME, l, 8, 1, 1, 0);
      for (int c = 0; c < 3; c++) has(x, c, l, 0, 0, 0, NONE);
    }
  }

  private static void nothingCanBeTold(CountedTokens x) {
    int n = x.look(0);
    int t = x.look(1);
    is("n as it is", x.set(0, n), false);
    is("another n", x.set(0, 2), false);
    is("t as it is", x.set(1, t), false);
    is("another t", x.set(1, 12), false);
    is("n", x.look(0), n);
    is("t", x.look(1), t);
  }

  @Says(in = "T1", value = "n, t can be told as long as HOME has all TOKENS of all LINES")
  static void t1_tokensAreAway() {
    for (int l = 0; l < 8; l += 7) {
      CountedTokens x = fresh();
      read(x, 1, l);
      is("no MESSAGE", x.look(6), 0);
      is("no MISS", x.look(15), 0);
      is("one TOKEN is away", x.node(HOME, l, 0), 7);
      nothingCanBeTold(x);
      x.evict(1, l);
      quiet(x);
      is("n then", x.set(0, 2), true);
      is("t then", x.set(1, 12), true);
    }
  }

  @Says(in = "T1", value = "nobody has a MISS")
  static void t1_aMissAlone() {
    // HOME had none when it was asked, and has all when the LINE was evicted
    for (int c = 0; c < 3; c++) {
      CountedTokens x = fresh();
      int owner = (c + 1) % 3;
      own(x, owner, 0, 5);
      x.set(3, 2);
      x.load(c, 0);
      x.deliver(0);
      x.evict(owner, 0);
      x.deliver(0);
      is("no MESSAGE", x.look(6), 0);
      for (int l = 0; l < 8; l++) is("all at HOME", x.node(HOME, l, 0), 8);
      is("a MISS", x.look(15), 1);
      nothingCanBeTold(x);
      x.calm(7);
      x.evict(c, 0);
      quiet(x);
      is("no MISS", x.look(15), 0);
      is("n then", x.set(0, 2), true);
      is("t then", x.set(1, 12), true);
    }
  }

  @Says(in = "T1", value = "and there is no MESSAGE")
  static void t1_aMessageAlone() {
    CountedTokens x = fresh();
    x.load(0, 0);
    x.deliver(2);
    x.deliver(2);
    x.evict(0, 0);
    x.deliver(2);
    row(x, 11, 12);
    is("no MISS", x.look(15), 0);
    for (int l = 0; l < 8; l++) is("all at HOME", x.node(HOME, l, 0), 8);
    nothingCanBeTold(x);
    x.deliver(0);
    nothingCanBeTold(x);
    x.deliver(0);
    is("n then", x.set(0, 2), true);
    is("t then", x.set(1, 12), true);
  }

  @Says(in = "T1", value = "all else stays, DATA at HOME, TABLES, HINTS, PROGRAMS, too")
  static void t1_allElseStays() {
    CountedTokens x = fresh();
    x.state(4);
    x.store(0, 3, 99);
    forGood(x);
    quiet(x);
    x.add(0, 3, 1);
    x.evict(0, 3);
    quiet(x);
    Due.text(x, 2, "load 1; load 2;");
    Due.text(x, 6, "tick 1;");
    int lines = x.look(18);
    is("n", x.set(0, 2), true);
    is("t", x.set(1, 12), true);
    has(x, HOME, 3, 12, 1, 1, 100);
    entry(x, HOME, 0, 1, 0, 3, 2, 0);
    entry(x, 1, 0, 1, 0, 3, 2, 0);
    is("HINT", x.node(1, 3, 5), 0);
    is("GROUP", x.group(1, 3), 1);
    is("PROGRAM", x.program(2, 0), 2);
    is("PLAN", x.look(16), 1);
    is("SEEN", x.seen(0, 0), 99);
    is("TICK", x.look(5), 3);
    is("STATE", x.look(14), 4);
    is("TRACE", x.look(18), lines);
    is("n anew", x.set(0, 3), true);
    entry(x, 2, 0, 1, 0, 3, 2, 0);
    is("HINT of one who was away", x.node(2, 3, 5), 0);
    is("GROUP of one who was away", x.group(2, 3), 1);
  }

  @Says(in = "T1", value = "ROOM (4 at first; 1 .. 8 can be told) of them")
  static void t1_room() {
    CountedTokens x = fresh();
    for (int l = 0; l < 4; l++) read(x, 0, l);
    is("four have ROOM", x.look(11), 0);
    read(x, 0, 4);
    is("the fifth has not", x.look(11), 1);
    x = fresh();
    is("ROOM 0", x.set(2, 0), false);
    is("ROOM 9", x.set(2, 9), false);
    is("ROOM", x.look(2), 4);
    is("ROOM 1", x.set(2, 1), true);
    read(x, 0, 0);
    is("one has ROOM", x.look(11), 0);
    read(x, 0, 1);
    is("two have not", x.look(11), 1);
    x = fresh();
    is("ROOM 8", x.set(2, 8), true);
    for (int l = 0; l < 8; l++) read(x, 0, l);
    is("all have ROOM", x.look(11), 0);
    for (int l = 0; l < 8; l++) is("place", x.node(0, l, 6), l);
  }

  /** 0 has one TOKEN of LINE 0, then LINE 1; another of LINE 0 is the last MESSAGE but those of LINE 1. */
  private static CountedTokens aSecondTokenIsLate() {
    CountedTokens x = fresh();
    x.load(0, 0);
    x.tick(6);
    row(x, 11, 12, 16, 11, 12, 16);
    x.deliver(2);
    x.deliver(4);
    come(x, HOME, 0, 3);
    x.load(0, 1);
    x.deliver(last(x));
    x.deliver(last(x));
    is("two ended", x.look(9), 2);
    is("place of 0", x.node(0, 0, 6), 0);
    is("place of 1", x.node(0, 1, 6), 1);
    return x;
  }

  @Says(in = "T1", value = "a LINE is used when its COUNT becomes more than 0")
  static void t1_usedWhenItComes() {
    CountedTokens x = aSecondTokenIsLate();
    x.evict(0, 0);
    is("place of 1", x.node(0, 1, 6), 0);
    come(x, HOME, 0, 3);
    has(x, 0, 0, 1, 0, 1, 0);
    is("it came last", x.node(0, 0, 6), 1);
    is("place of 1", x.node(0, 1, 6), 0);
    // more of what it has already: not used
    x = aSecondTokenIsLate();
    come(x, HOME, 0, 3);
    is("two TOKENS", x.node(0, 0, 0), 2);
    is("still longest ago", x.node(0, 0, 6), 0);
    is("place of 1", x.node(0, 1, 6), 1);
  }

  @Says(in = "T1", value = "at each hit")
  static void t1_usedAtEachHit() {
    CountedTokens x = fresh();
    own(x, 0, 0, 1);
    own(x, 0, 1, 1);
    x.load(0, 0);
    is("a LOAD", x.node(0, 0, 6), 1);
    x.store(0, 1, 2);
    is("a STORE", x.node(0, 1, 6), 1);
    x.add(0, 0, 2);
    is("an ADD", x.node(0, 0, 6), 1);
    is("the other", x.node(0, 1, 6), 0);
  }

  @Says(in = "T1", value = "at the end of a MISS")
  static void t1_usedAtTheEndOfAMiss() {
    CountedTokens x = fresh();
    read(x, 1, 0);
    read(x, 0, 0);
    read(x, 0, 1);
    x.store(0, 0, 9);
    is("a MISS is no use", x.node(0, 0, 6), 0);
    come(x, 0, 1, 2);
    come(x, 1, 0, 3);
    is("two TOKENS", x.node(0, 0, 0), 2);
    is("some TOKENS more are no use", x.node(0, 0, 6), 0);
    come(x, 0, HOME, 2);
    come(x, HOME, 0, 3);
    is("ended", x.look(15), 0);
    is("used", x.node(0, 0, 6), 1);
    is("place of 1", x.node(0, 1, 6), 0);
  }

  @Says(in = "T1", value = "POLICY 0 .. 3 (0 at first), PATIENCE 1 .. 20 (6 at first), TICK 0 .. 9999 (0 at first)")
  static void t1_policyPatienceTick() {
    CountedTokens x = fresh();
    is("POLICY", x.look(3), 0);
    is("PATIENCE", x.look(4), 6);
    is("TICK", x.look(5), 0);
    is("POLICY -1", x.set(3, -1), false);
    is("POLICY 4", x.set(3, 4), false);
    is("POLICY 3", x.set(3, 3), true);
    is("POLICY 0", x.set(3, 0), true);
    is("PATIENCE 0", x.set(4, 0), false);
    is("PATIENCE 21", x.set(4, 21), false);
    is("PATIENCE 20", x.set(4, 20), true);
    is("PATIENCE 1", x.set(4, 1), true);
    x = Edges.at(9998);
    is("TICK 9999", x.tick(1), 9999);
    is("no more", x.tick(1), NONE);
  }

  @Says(in = "T1", value = "MESSAGES lie in a row as they were sent")
  static void t1_theRow() {
    CountedTokens x = fresh();
    x.load(2, 0);
    x.store(0, 1, 5);
    row(x, 10, 11, 16, 21, 22, 26);
    x.deliver(1);
    row(x, 10, 16, 21, 22, 26);
    x.deliver(1);
    row(x, 10, 21, 22, 26, 32);
    x.deliver(4);
    row(x, 10, 21, 22, 26);
    x.deliver(0);
    row(x, 21, 22, 26);
  }

  @Says(in = "T1", value = "DATA (NONE: without)")
  static void t1_dataOfMessages() {
    CountedTokens x = fresh();
    own(x, 0, 0, 0);
    read(x, 1, 0);
    x.evict(1, 0);
    letter(x, 0, 1, HOME, 3, 0, 1, 0, NONE, 0, 0);
    x.evict(0, 0);
    letter(x, 1, 0, HOME, 3, 0, 7, 1, 0, 0, 0);
    own(x, 2, 1, 9999);
    x.evict(2, 1);
    letter(x, last(x), 2, HOME, 3, 1, 8, 1, 9999, 0, 0);
  }

  // ---- Terms 2: LOAD, STORE, ADD

  @Says(in = "T2", value = "DATA is v more, modulo 10000")
  static void t2_addWraps() {
    CountedTokens x = fresh();
    own(x, 0, 0, 9999);
    x.add(0, 0, 0);
    is("9999 + 0", x.worth(0), 9999);
    x.add(0, 0, 1);
    is("9999 + 1", x.worth(0), 0);
    x.add(0, 0, 9999);
    is("0 + 9999", x.worth(0), 9999);
    x.add(0, 0, 9999);
    is("9999 + 9999", x.worth(0), 9998);
    x.add(1, 0, 2);
    quiet(x);
    is("at the end of a MISS", x.worth(0), 0);
  }

  @Says(in = "T2", value = "LOAD: COUNT above 0, VALID")
  static void t2_hitToLoad() {
    CountedTokens x = fresh();
    read(x, 0, 0);
    is("COUNT 1", x.node(0, 0, 0), 1);
    is("a HIT", x.load(0, 0), 0);
    is("COUNT 0", x.load(1, 0), NONE);
    // TOKENS without DATA: for good to read all but one go, without DATA if the OWNER is elsewhere,
    // and the MISS that they were for was over and the LINE evicted when they came
    x = lateWithoutData(4);
    come(x, 2, 0, 3);
    has(x, 0, 5, 1, 0, 0, NONE);
    is("can", x.can(0, 5), 0);
    is("not VALID is a MISS", x.load(0, 5), NONE);
  }

  /** 0 has evicted LINE 5, and one TOKEN of it without DATA is on its way to it from 2. */
  private static CountedTokens lateWithoutData(int room) {
    CountedTokens x = fresh();
    x.set(2, room);
    x.load(2, 5);
    x.tick(6);
    quiet(x);
    is("2 has two", x.node(2, 5, 0), 2);
    x.load(0, 5);
    forGood(x);
    come(x, 0, 2, 4);
    come(x, 0, HOME, 4);
    come(x, HOME, 0, 3);
    is("0 is through", x.look(15), 0);
    letter(x, Edges.find(x, 2, 0, 3), 2, 0, 3, 5, 1, 0, NONE, 0, 0);
    x.evict(0, 5);
    come(x, 0, HOME, 3);
    // what is sent home comes back as long as HOME has not heard the recall
    Edges.allOf(x, 5);
    come(x, HOME, 0, 3);
    x.evict(0, 5);
    come(x, 0, HOME, 3);
    is("0 has none", x.node(0, 5, 0), 0);
    return x;
  }

  @Says(in = "T2", value = "else COUNT is t, VALID")
  static void t2_hitToWrite() {
    CountedTokens x = fresh();
    own(x, 0, 0, 5);
    is("t TOKENS", x.store(0, 0, 6), 1);
    is("t TOKENS", x.add(0, 0, 6), 1);
    read(x, 1, 0);
    is("t less 1", x.node(0, 0, 0), 7);
    is("can", x.can(0, 0), 1);
    is("a MISS", x.store(0, 0, 7), 0);
    x = fresh();
    own(x, 0, 0, 5);
    read(x, 1, 0);
    is("a MISS", x.add(0, 0, 7), 0);
    x = fresh(2, 2);
    own(x, 0, 0, 5);
    is("t 2", x.store(0, 0, 6), 1);
    x = fresh(2, 12);
    own(x, 0, 0, 5);
    is("t 12", x.store(0, 0, 6), 1);
  }

  @Says(in = "T2", value = "HITS one more; what a MISS does at its end is none")
  static void t2_hitsAreCounted() {
    CountedTokens x = fresh();
    own(x, 0, 0, 5);
    is("none by a MISS", x.look(8), 0);
    x.load(0, 0);
    x.store(0, 0, 1);
    x.add(0, 0, 1);
    is("three", x.look(8), 3);
    is("of 0", x.cost(0, 0), 3);
    is("of 1", x.cost(1, 0), 0);
  }

  @Says(in = "T2", value = "a MISS has its LINE, WHAT (1 LOAD, 2 STORE, 3 ADD), v, ISSUED (1), LATEST (TICK), FOR GOOD (0)")
  static void t2_whatAMissHas() {
    CountedTokens x = Edges.at(9999);
    x.load(0, 0);
    x.store(1, 7, 9999);
    x.add(2, 3, 0);
    int[][] due = {{0, 1, 0, 1, 9999, 0}, {7, 2, 9999, 1, 9999, 0}, {3, 3, 0, 1, 9999, 0}};
    for (int c = 0; c < 3; c++) for (int w = 0; w < 6; w++) is("miss(" + c + ", " + w + ")", x.miss(c, w), due[c][w]);
  }

  @Says(in = "T2", value = "by a CPU without a MISS")
  static void t2_oneMissAtATime() {
    CountedTokens x = fresh();
    own(x, 0, 0, 5);
    x.load(0, 1);
    is("what would be a HIT", x.load(0, 0), NONE - 1);
    is("what would be a HIT", x.store(0, 0, 6), NONE);
    is("what would be a HIT", x.add(0, 0, 6), NONE);
    is("DATA", x.worth(0), 5);
    is("HITS", x.look(8), 0);
  }

  @Says(in = "T2", value = "SEEN (60 of a CPU; no more then)")
  static void t2_sixtySeen() {
    CountedTokens x = fresh();
    own(x, 0, 0, 0);
    for (int i = 1; i <= 60; i++) {
      x.add(0, 0, 1);
      is("SEEN", x.seen(0, NONE), i);
    }
    is("the 60th", x.seen(0, 59), 59);
    x.add(0, 0, 1);
    x.load(0, 0);
    is("no more", x.seen(0, NONE), 60);
    is("the 60th", x.seen(0, 59), 59);
    is("the first", x.seen(0, 0), 0);
    is("no 61st", x.seen(0, 60), NONE);
    read(x, 1, 0);
    is("of another CPU", x.seen(1, NONE), 1);
    is("DATA goes on", x.seen(1, 0), 61);
  }

  @Says(in = "T2", value = "what was LOADED, what was there ahead of an ADD, in order, whether a HIT or not")
  static void t2_whatIsSeen() {
    CountedTokens x = fresh();
    own(x, 0, 0, 7);
    is("nothing by a STORE", x.seen(0, NONE), 0);
    x.store(0, 0, 8);
    is("nothing by a HIT of STORE", x.seen(0, NONE), 0);
    x.load(0, 0);
    x.add(0, 0, 3);
    x.load(0, 0);
    is("three", x.seen(0, NONE), 3);
    int[] due = {8, 8, 11};
    for (int i = 0; i < 3; i++) is("seen(0, " + i + ")", x.seen(0, i), due[i]);
    x.add(1, 0, 4);
    is("not ahead of its end", x.seen(1, NONE), 0);
    quiet(x);
    is("ahead of the ADD", x.seen(1, 0), 11);
    read(x, 2, 0);
    is("LOADED", x.seen(2, 0), 15);
  }

  // ---- Terms 2: asking

  @Says(in = "T2", value = "0: each other CPU in order, HOME.")
  static void t2_policy0() {
    CountedTokens x = fresh(6, 8);
    x.load(3, 0);
    row(x, 10, 11, 12, 14, 15, 16);
    x = fresh(2, 8);
    x.add(0, 0, 1);
    row(x, 21, 26);
    x = fresh(2, 8);
    x.store(1, 0, 1);
    row(x, 20, 26);
  }

  @Says(in = "T2", value = "1: the CPU of its HINT of that LINE, if there is one, HOME.")
  static void t2_policy1() {
    CountedTokens x = fresh();
    own(x, 2, 4, 5);
    own(x, 2, 1, 5);
    x.set(3, 1);
    x.load(0, 4);
    row(x, 12, 16);
    x.load(1, 3);
    row(x, 12, 16, 16);
    x.set(4, 1);
    x.tick(1);
    // asked anew as at first
    row(x, 12, 16, 16, 12, 16, 16);
  }

  @Says(in = "T2", value = "2: HOME, if ISSUED is 1, else as 0.")
  static void t2_policy2() {
    CountedTokens x = fresh();
    x.set(3, 2);
    x.set(4, 1);
    x.store(1, 0, 5);
    row(x, 26);
    x.tick(1);
    is("ISSUED", x.miss(1, 3), 2);
    row(x, 26, 20, 22, 26);
    x.tick(1);
    row(x, 26, 20, 22, 26, 20, 22, 26);
  }

  @Says(in = "T2", value = "3: if ISSUED is 1, each CPU of its GROUP of that LINE in order, HOME; else as 0.")
  static void t2_policy3() {
    CountedTokens x = fresh(5, 8);
    x.set(4, 1);
    read(x, 3, 5);
    read(x, 1, 5);
    is("GROUP of 2", x.group(2, 5), 10);
    x.set(3, 3);
    x.load(2, 5);
    row(x, 11, 13, 16);
    x.load(0, 7);
    row(x, 11, 13, 16, 16);
    x.tick(1);
    row(x, 11, 13, 16, 16, 11, 12, 13, 14, 16, 10, 11, 13, 14, 16);
  }

  @Says(in = "T2", value = "(1, 3: CPUS that there are.)")
  static void t2_whoIsGoneIsNotAsked() {
    CountedTokens x = fresh();
    own(x, 2, 0, 5);
    x.evict(2, 0);
    quiet(x);
    is("HINT of 0", x.node(0, 0, 5), 2);
    is("GROUP of 0", x.group(0, 0), 4);
    x.set(0, 2);
    x.image(true);
    for (int policy = 1; policy <= 3; policy += 2) {
      x.image(false);
      x.set(3, policy);
      x.load(0, 0);
      row(x, 16);
    }
    // come back, it is asked
    for (int policy = 1; policy <= 3; policy += 2) {
      x.image(false);
      x.set(0, 3);
      x.set(3, policy);
      x.load(0, 0);
      row(x, 12, 16);
    }
  }

  @Says(in = "T2", value = "One that would be the 61st of KIND 1, 2 on its way is DROPPED, counted.")
  static void t2_the61stIsDropped() {
    CountedTokens x = fresh(6, 8);
    x.set(4, 1);
    for (int c = 0; c < 5; c++) {
      if (c % 2 == 0) x.load(c, c);
      else x.store(c, c, 1);
    }
    x.tick(1);
    is("60", x.look(6), 60);
    is("none DROPPED", x.look(7), 0);
    x.load(5, 5);
    is("60", x.look(6), 60);
    is("DROPPED", x.look(7), 6);
    is("it has its MISS", x.miss(5, 0), 5);
    // one comes, and TOKENS take its place: there is room for one that asks
    come(x, 0, HOME, 1);
    is("59 and TOKENS", x.look(6), 60);
    is("TOKENS", x.look(13), 1);
    x.set(4, 20);
    come(x, HOME, 0, 3);
    is("59", x.look(6), 59);
    x.load(0, 7);
    is("60", x.look(6), 60);
    is("five more DROPPED", x.look(7), 11);
    is("the first that asks is there", x.message(59, 1), 1);
  }

  @Says(in = "T2", value = "One that would be the 61st of KIND 1, 2 on its way")
  static void t2_otherKindsAreNotDropped() {
    // 60 that ask are on their way: TOKENS, 4 and 5 are sent all the same, and are not counted as such
    CountedTokens x = fresh(6, 8);
    own(x, 5, 5, 1);
    x.set(4, 1);
    for (int c = 0; c < 5; c++) x.store(c, c, 1);
    x.tick(1);
    is("60", x.look(6), 60);
    x.evict(5, 5);
    is("TOKENS", x.look(6), 61);
    x.tick(2);
    is("five for good", x.look(10), 5);
    is("30 of KIND 4", x.look(6), 61 + 30);
    is("DROPPED is what asked in between", x.look(7), 30);
    come(x, 0, HOME, 4);
    come(x, HOME, 0, 3);
    is("6 of KIND 5", x.look(6), 61 + 29 + 6);
    // 59 that ask, many others: one more is sent
    come(x, 1, 2, 2);
    x.set(3, 2);
    x.load(5, 6);
    is("it is sent", x.message(last(x), 2), 1);
    is("DROPPED", x.look(7), 30);
    x.load(0, 7);
    is("the 61st", x.look(7), 31);
  }

  @Says(in = "T2", value = "which CPU asked it to write that LINE, or sent it TOKENS of it, last (TOKENS from HOME: none then)")
  static void t2_hint() {
    CountedTokens x = fresh();
    own(x, 1, 0, 5);
    is("who asked 0 to write", x.node(0, 0, 5), 1);
    is("TOKENS from HOME", x.node(1, 0, 5), NONE);
    x.store(2, 0, 6);
    come(x, 2, 0, 2);
    is("last", x.node(0, 0, 5), 2);
    come(x, 2, 1, 2);
    come(x, 1, 2, 3);
    is("who sent TOKENS", x.node(2, 0, 5), 1);
    quiet(x);
    x.load(1, 0);
    come(x, 1, 0, 1);
    is("who reads is none", x.node(0, 0, 5), 2);
    x.evict(2, 0);
    quiet(x);
    read(x, 0, 0);
    is("none by TOKENS from HOME", x.node(0, 0, 5), NONE);
    is("other LINE", x.node(0, 1, 5), NONE);
  }

  @Says(in = "T2", value = "HINT of a CPU of a LINE (none at first)")
  static void t2_noHintAtFirst() {
    CountedTokens x = fresh(6, 8);
    for (int c = 0; c < 6; c++) for (int l = 0; l < 8; l++) is("HINT", x.node(c, l, 5), NONE);
  }

  @Says(in = "T2", value = "GROUP of a CPU of a LINE (empty at first)")
  static void t2_noGroupAtFirst() {
    CountedTokens x = fresh(6, 8);
    for (int c = 0; c < 6; c++) for (int l = 0; l < 8; l++) is("GROUP", x.group(c, l), 0);
  }

  @Says(in = "T2", value = "the CPUS that asked it for that LINE (to read, too), or sent it TOKENS of it (whatever it answered, did with them)")
  static void t2_group() {
    CountedTokens x = fresh();
    x.load(2, 0);
    come(x, 2, 0, 1);
    is("who was not answered", x.group(0, 0), 4);
    x.store(1, 0, 5);
    come(x, 1, 0, 2);
    is("who wants to write", x.group(0, 0), 6);
    is("not of another LINE", x.group(0, 1), 0);
    x = fresh();
    own(x, 1, 3, 5);
    x.tick(16);
    is("empty", x.group(0, 3), 0);
    x.load(0, 3);
    come(x, 0, 1, 1);
    is("who was answered", x.group(1, 3), 1);
    come(x, 1, 0, 3);
    is("who sent TOKENS", x.group(0, 3), 2);
    quiet(x);
    read(x, 0, 6);
    is("it has TOKENS from HOME", x.node(0, 6, 0), 1);
    is("HOME is no CPU", x.group(0, 6), 0);
  }

  @Says(in = "T2", value = "whatever it answered, did with them")
  static void t2_hintAndGroupOfWhatGoesOn() {
    // TOKENS of LINE 5 from 1 come to 0, which has no ROOM for them
    CountedTokens x = fresh();
    x.set(2, 1);
    own(x, 1, 5, 50);
    x.load(0, 5);
    x.tick(6);
    come(x, 0, 1, 1);
    come(x, 0, 1, 1);
    come(x, 1, 0, 3);
    is("ended", x.look(15), 0);
    x.load(0, 6);
    x.deliver(last(x));
    x.deliver(last(x));
    is("LINE 5 was evicted", x.node(0, 5, 0), 0);
    x.store(2, 5, 1);
    come(x, 2, 0, 2);
    is("HINT", x.node(0, 5, 5), 2);
    x.tick(10);
    is("GROUP", x.group(0, 5), 0);
    come(x, 1, 0, 3);
    is("it went on", x.trace(0, 1), 5);
    is("HINT", x.node(0, 5, 5), 1);
    is("GROUP", x.group(0, 5), 2);
  }

  @Says(in = "T2", value = "at each TICK that is a multiple of 16 (as soon as it is that, ahead of CPU by CPU) all GROUPS are empty")
  static void t2_groupsAreEmptied() {
    CountedTokens x = fresh();
    read(x, 0, 0);
    is("GROUP", x.group(1, 0), 1);
    x.tick(15);
    is("TICK 15", x.group(1, 0), 1);
    x.tick(1);
    is("TICK 16", x.group(1, 0), 0);
    is("of all", x.group(2, 0), 0);
    read(x, 0, 7);
    x.tick(15);
    is("TICK 31", x.group(1, 7), 1);
    x.calm(1);
    is("TICK 32", x.group(1, 7), 0);
    read(x, 0, 6);
    x.go(15, 0);
    is("TICK 47", x.group(1, 6), 1);
    x.go(1, 0);
    is("TICK 48", x.group(1, 6), 0);
    // a GROUP of a CPU that is away is emptied, too
    x = fresh();
    own(x, 0, 0, 1);
    x.evict(0, 0);
    quiet(x);
    is("GROUP of 2", x.group(2, 0), 1);
    x.set(0, 2);
    x.tick(16);
    x.set(0, 3);
    is("GROUP of 2", x.group(2, 0), 0);
  }

  // ---- Terms 2: answering

  /** 0 is ACTIVE at HOME to read LINE 0, has its MISS over; HOME has one TOKEN, not OWNER. */
  private static CountedTokens activeAtHome() {
    CountedTokens x = fresh();
    x.load(0, 0);
    forGood(x);
    come(x, 0, HOME, 4);
    come(x, HOME, 0, 3);
    is("ended", x.look(15), 0);
    is("ACTIVE at HOME", x.table(HOME, 0, 1), 1);
    has(x, HOME, 0, 1, 0, 1, 0);
    x.set(3, 2);
    x.set(4, 20);
    return x;
  }

  @Says(in = "T2", value = "Is anything for that LINE ACTIVE in its TABLE (of whatever CPU, itself and c, too), or its COUNT 0: nothing.")
  static void t2_activeOfWhoAsks() {
    CountedTokens x = activeAtHome();
    x.store(0, 0, 5);
    int many = x.look(6);
    x.deliver(last(x));
    is("no answer", x.look(6), many - 1);
    has(x, HOME, 0, 1, 0, 1, 0);
  }

  @Says(in = "T2", value = "Is anything for that LINE ACTIVE in its TABLE (of whatever CPU")
  static void t2_activeOfAnother() {
    CountedTokens x = activeAtHome();
    x.store(1, 0, 5);
    int many = x.look(6);
    x.deliver(last(x));
    is("no answer", x.look(6), many - 1);
    has(x, HOME, 0, 1, 0, 1, 0);
    // when HOME has heard the recall, it answers
    come(x, 0, HOME, 5);
    x.store(2, 0, 6);
    x.deliver(last(x));
    letter(x, last(x), HOME, 2, 3, 0, 1, 0, NONE, 0, 0);
  }

  @Says(in = "T2", value = "itself and c, too")
  static void t2_activeOfItself() {
    CountedTokens x = fresh();
    read(x, 0, 0);
    x.store(0, 0, 5);
    forGood(x);
    is("0 is ACTIVE at 0", x.table(0, 0, 1), 1);
    x.set(3, 0);
    x.store(1, 0, 6);
    int many = x.look(6);
    come(x, 1, 0, 2);
    is("no answer", x.look(6), many - 1);
    has(x, 0, 0, 1, 0, 1, 0);
  }

  @Says(in = "T2", value = "Is anything for that LINE ACTIVE")
  static void t2_activeForAnotherLine() {
    CountedTokens x = activeAtHome();
    x.store(1, 1, 5);
    x.deliver(last(x));
    letter(x, last(x), HOME, 1, 3, 1, 8, 1, 0, 0, 0);
  }

  @Says(in = "T2", value = "or its COUNT 0: nothing")
  static void t2_whoHasNoneAnswersNothing() {
    CountedTokens x = fresh();
    own(x, 0, 0, 5);
    x.load(1, 0);
    x.store(2, 0, 5);
    come(x, 1, HOME, 1);
    come(x, 2, HOME, 2);
    come(x, 1, 2, 1);
    come(x, 2, 1, 2);
    row(x, 10, 20);
  }

  @Says(in = "T2", value = "is COUNT above 1: one TOKEN (not OWNER) goes to c with DATA, else all with DATA")
  static void t2_ownerIsAskedToRead() {
    CountedTokens x = fresh(2, 3);
    own(x, 0, 0, 44);
    for (int left = 3; left > 1; left--) {
      x.load(1, 0);
      come(x, 1, 0, 1);
      letter(x, Edges.find(x, 0, 1, 3), 0, 1, 3, 0, 1, 0, 44, 0, 0);
      has(x, 0, 0, left - 1, 1, 1, 44);
      quiet(x);
      x.evict(1, 0);
      quiet(x);
    }
    x.load(1, 0);
    come(x, 1, 0, 1);
    letter(x, Edges.find(x, 0, 1, 3), 0, 1, 3, 0, 1, 1, 44, 0, 0);
    has(x, 0, 0, 0, 0, 0, NONE);
    is("it has the LINE no more", x.node(0, 0, 6), NONE);
  }

  @Says(in = "T2", value = "(without OWNER: nothing)")
  static void t2_whoIsNotOwnerIsAskedToRead() {
    CountedTokens x = fresh();
    x.load(0, 0);
    x.tick(6);
    quiet(x);
    has(x, 0, 0, 2, 0, 1, 0);
    x.load(1, 0);
    int many = x.look(6);
    come(x, 1, 0, 1);
    is("no answer", x.look(6), many - 1);
    has(x, 0, 0, 2, 0, 1, 0);
  }

  @Says(in = "T2", value = "2: all goes to c, with DATA, if OWNER (what one has who is not OWNER never goes, VALID or not)")
  static void t2_askedToWrite() {
    CountedTokens x = fresh();
    own(x, 1, 0, 44);
    read(x, 2, 0);
    x.store(0, 0, 5);
    come(x, 0, 1, 2);
    letter(x, last(x), 1, 0, 3, 0, 7, 1, 44, 0, 0);
    has(x, 1, 0, 0, 0, 0, NONE);
    is("2 is VALID", x.node(2, 0, 2), 1);
    come(x, 0, 2, 2);
    letter(x, last(x), 2, 0, 3, 0, 1, 0, NONE, 0, 0);
    has(x, 2, 0, 0, 0, 0, NONE);
    // not VALID: it goes as well
    x = fresh();
    read(x, 2, 0);
    x.store(0, 0, 5);
    come(x, 0, 2, 2);
    come(x, 2, 0, 3);
    has(x, 0, 0, 1, 0, 0, NONE);
    x.store(1, 0, 6);
    come(x, 1, 0, 2);
    letter(x, last(x), 0, 1, 3, 0, 1, 0, NONE, 0, 0);
    is("where a MISS is of that LINE, too", x.node(0, 0, 0), 0);
  }

  // ---- Terms 2: TOKENS come

  @Says(in = "T2", value = "HAS it ROOM LINES (or more) already")
  static void t2_fullRoom() {
    CountedTokens x = fresh();
    x.set(2, 2);
    read(x, 0, 0);
    is("one of two", x.look(11), 0);
    read(x, 0, 1);
    is("two of two", x.look(11), 0);
    read(x, 0, 2);
    is("the third", x.look(11), 1);
    // more than ROOM: one is evicted, and the others stay
    x = fresh();
    for (int l = 0; l < 4; l++) read(x, 0, l);
    x.set(2, 2);
    is("Less ROOM evicts nothing", x.look(11), 0);
    read(x, 0, 4);
    is("one", x.look(11), 1);
    is("longest ago", x.node(0, 0, 0), 0);
    for (int l = 1; l < 5; l++) is("LINE " + l, x.node(0, l, 6), l - 1);
  }

  @Says(in = "T2", value = "Is it a CPU that has none of that LINE")
  static void t2_roomForWhatItHas() {
    // It has some of the LINE already: nothing is evicted, though ROOM is full
    CountedTokens x = fresh();
    x.set(2, 2);
    read(x, 0, 0);
    read(x, 0, 1);
    own(x, 0, 0, 5);
    is("EVICTIONS", x.look(11), 0);
    has(x, 0, 0, 8, 1, 1, 5);
    is("LINE 1 is there", x.node(0, 1, 0), 1);
    // and what comes of it without a MISS stays
    x = fresh();
    x.set(2, 1);
    x.load(0, 0);
    x.tick(6);
    quiet(x);
    has(x, 0, 0, 2, 0, 1, 0);
    is("nothing went on", x.flow(0, HOME, 1), 0);
    // HOME has ROOM for all
    x = fresh();
    x.set(2, 1);
    for (int l = 0; l < 8; l++) {
      own(x, 0, l, l);
      x.evict(0, l);
      quiet(x);
    }
    for (int l = 0; l < 8; l++) has(x, HOME, l, 8, 1, 1, l);
  }

  @Says(in = "T2", value = "is the LINE that of its MISS: of the others that USED longest ago is EVICTED (one)")
  static void t2_evictedForAMiss() {
    CountedTokens x = fresh();
    x.set(2, 3);
    own(x, 0, 3, 33);
    own(x, 0, 5, 55);
    own(x, 0, 1, 11);
    x.load(0, 3);
    x.load(0, 7);
    come(x, 0, HOME, 1);
    come(x, HOME, 0, 3);
    is("EVICTIONS", x.look(11), 1);
    letter(x, last(x), 0, HOME, 3, 5, 8, 1, 55, 0, 0);
    int[] place = {NONE, 0, NONE, 1, NONE, NONE, NONE, 2};
    for (int l = 0; l < 8; l++) is("place of " + l, x.node(0, l, 6), place[l]);
    Edges.traced(x, 207, 405, 107);
  }

  /** 0 has ROOM for one and has LINE 6; the last TOKEN of LINE 5, its OWNER, is on its way to it. */
  private static CountedTokens lateOwner() {
    CountedTokens x = fresh(2, 2);
    x.set(2, 1);
    own(x, 1, 5, 123);
    x.evict(1, 5);
    quiet(x);
    x.load(0, 5);
    x.tick(6);
    come(x, 0, HOME, 1);
    come(x, 0, HOME, 1);
    come(x, HOME, 0, 3);
    x.load(0, 6);
    x.deliver(last(x));
    x.deliver(last(x));
    is("LINE 6", x.node(0, 6, 0), 1);
    is("LINE 5", x.node(0, 5, 0), 0);
    return x;
  }

  @Says(in = "T2", value = "else all that came goes on to HOME as it came (from this CPU), and that is all (not SETTLED)")
  static void t2_goesOnWithOwner() {
    CountedTokens x = lateOwner();
    come(x, HOME, 0, 3);
    letter(x, last(x), 0, HOME, 3, 5, 1, 1, 123, 0, 0);
    has(x, 0, 5, 0, 0, 0, NONE);
    is("no place", x.node(0, 5, 6), NONE);
    is("EVICTIONS", x.look(11), 2);
    Edges.traced(x, 505);
    is("worth", x.worth(5), 123);
    is("sent", x.flow(0, HOME, 2), 1);
    quiet(x);
    has(x, HOME, 5, 2, 1, 1, 123);
    // with ROOM for it, it stays
    x = lateOwner();
    x.set(2, 2);
    come(x, HOME, 0, 3);
    has(x, 0, 5, 1, 1, 1, 123);
    is("used", x.node(0, 5, 6), 1);
    // its MISS is of another LINE
    x = lateOwner();
    x.store(0, 6, 1);
    come(x, HOME, 0, 3);
    Edges.traced(x, 505);
    is("LINE 6", x.node(0, 6, 0), 1);
  }

  @Says(in = "T2", value = "all that came goes on to HOME as it came")
  static void t2_goesOnWithoutData() {
    CountedTokens x = lateWithoutData(1);
    x.set(3, 2);
    x.load(0, 6);
    x.deliver(last(x));
    x.deliver(last(x));
    is("no ROOM", x.node(0, 6, 0), 1);
    come(x, 2, 0, 3);
    letter(x, last(x), 0, HOME, 3, 5, 1, 0, NONE, 0, 0);
    Edges.traced(x, 505);
  }

  @Says(in = "T2", value = "and that is all (not SETTLED)")
  static void t2_goesOnToHomeNotToTheTurn() {
    // 1 asks for good for LINE 5, and 0 knows; what comes to 0 goes to HOME all the same
    CountedTokens x = lateOwner();
    x.store(1, 5, 9);
    forGood(x);
    come(x, 1, 0, 4);
    is("THE TURN at 0", x.node(0, 5, 4), 1);
    come(x, HOME, 0, 3);
    letter(x, last(x), 0, HOME, 3, 5, 1, 1, 123, 0, 0);
    // with ROOM it would be SETTLED
    x = lateOwner();
    x.set(2, 2);
    x.store(1, 5, 9);
    forGood(x);
    come(x, 1, 0, 4);
    come(x, HOME, 0, 3);
    letter(x, last(x), 0, 1, 3, 5, 1, 1, 123, 0, 0);
  }

  @Says(in = "T2", value = "with DATA: VALID, DATA that (without: these stay)")
  static void t2_dataThatComes() {
    CountedTokens x = fresh();
    own(x, 1, 0, 44);
    read(x, 2, 0);
    x.evict(2, 0);
    quiet(x);
    has(x, HOME, 0, 1, 0, 0, NONE);
    x.evict(1, 0);
    quiet(x);
    has(x, HOME, 0, 8, 1, 1, 44);
    // VALID stays when some come without DATA
    read(x, 2, 0);
    x.evict(2, 0);
    quiet(x);
    has(x, HOME, 0, 8, 1, 1, 44);
    // at a CPU, too: the OWNER's first, then one without DATA
    read(x, 2, 0);
    x.add(0, 0, 1);
    come(x, 0, HOME, 2);
    come(x, HOME, 0, 3);
    has(x, 0, 0, 7, 1, 1, 44);
    come(x, 0, 2, 2);
    come(x, 2, 0, 3);
    has(x, 0, 0, 8, 1, 1, 45);
  }

  @Says(in = "T2", value = "Can its MISS of that LINE be done now (as a HIT): it is, and ENDS.")
  static void t2_aMissEnds() {
    CountedTokens x = fresh();
    read(x, 2, 0);
    x.store(0, 0, 5);
    come(x, 0, HOME, 2);
    come(x, HOME, 0, 3);
    is("t less 1 is not enough", x.look(15), 1);
    is("DATA as it was", x.node(0, 0, 3), 0);
    come(x, 0, 2, 2);
    come(x, 2, 0, 3);
    is("ENDED", x.look(15), 0);
    is("done", x.node(0, 0, 3), 5);
    is("counted", x.look(9), 1 + 1);
    // not VALID is not enough to LOAD
    x = lateWithoutData(4);
    x.load(0, 5);
    come(x, 2, 0, 3);
    has(x, 0, 5, 1, 0, 0, NONE);
    is("not ended", x.miss(0, 0), 5);
    // a MISS of another LINE is not done
    x = aSecondTokenIsLate();
    x.load(0, 2);
    come(x, HOME, 0, 3);
    is("not ended", x.miss(0, 0), 2);
  }

  @Says(in = "T2", value = "Then the LINE is SETTLED there.")
  static void t2_whatCameIsSettled() {
    // it is 1's TURN at HOME: what is evicted goes on to it, whether a MISS was there or not
    CountedTokens x = fresh();
    own(x, 0, 0, 44);
    x.set(3, 2);
    x.store(1, 0, 5);
    forGood(x);
    come(x, 1, HOME, 4);
    x.evict(0, 0);
    come(x, 0, HOME, 3);
    letter(x, last(x), HOME, 1, 3, 0, 8, 1, 44, 0, 0);
    has(x, HOME, 0, 0, 0, 0, NONE);
    // at a CPU whose MISS it ends, too: it is done first
    x = fresh();
    x.set(3, 2);
    x.store(1, 0, 5);
    forGood(x);
    come(x, 1, 0, 4);
    x.add(0, 0, 7);
    x.deliver(last(x));
    come(x, HOME, 0, 3);
    is("done", x.cost(0, 1), 1);
    letter(x, last(x), 0, 1, 3, 0, 8, 1, 7, 0, 0);
    has(x, 0, 0, 0, 0, 0, NONE);
  }

  @Says(in = "T2", value = "TO EVICT: all its TOKENS of the LINE go to HOME, with DATA, if OWNER; EVICTIONS one more.")
  static void t2_evict() {
    CountedTokens x = fresh();
    own(x, 0, 0, 5);
    read(x, 1, 0);
    x.evict(0, 0);
    letter(x, 0, 0, HOME, 3, 0, 7, 1, 5, 0, 0);
    has(x, 0, 0, 0, 0, 0, NONE);
    x.evict(1, 0);
    letter(x, 1, 1, HOME, 3, 0, 1, 0, NONE, 0, 0);
    is("EVICTIONS", x.look(11), 2);
    Edges.traced(x, 410, 400);
  }

  // ---- Terms 3: TURNS

  @Says(in = "T3", value = "of each CPU SEQ (0 at first), ACTIVE, LINE, WHAT (1 to read, 2 to write), MARKED")
  static void t3_tablesAtFirst() {
    CountedTokens x = fresh(6, 8);
    for (int node = 0; node <= 6; node++) for (int c = 0; c < 6; c++) entry(x, node, c, 0, 0, 0, 0, 0);
  }

  /** 0 and 1 ask for good to write LINE 0, 2 to read LINE 1; nothing has come. */
  private static CountedTokens threeForGood() {
    CountedTokens x = fresh();
    x.set(3, 2);
    x.store(0, 0, 10);
    x.store(1, 0, 11);
    x.load(2, 1);
    forGood(x);
    is("for good", x.look(10), 3);
    return x;
  }

  @Says(in = "T3", value = "THE TURN of a LINE at a NODE: the least CPU that is ACTIVE for it in its TABLE.")
  static void t3_theLeast() {
    CountedTokens x = threeForGood();
    is("at 1 it is its own", x.node(1, 0, 4), 1);
    is("at 0 it is its own", x.node(0, 0, 4), 0);
    is("none at HOME", x.node(HOME, 0, 4), NONE);
    come(x, 1, HOME, 4);
    is("the only one", x.node(HOME, 0, 4), 1);
    come(x, 0, HOME, 4);
    is("the least", x.node(HOME, 0, 4), 0);
    come(x, 2, HOME, 4);
    is("of LINE 1", x.node(HOME, 1, 4), 2);
    is("of LINE 2", x.node(HOME, 2, 4), NONE);
    come(x, 1, 0, 4);
    is("at 0", x.node(0, 0, 4), 0);
    come(x, 0, 1, 4);
    is("at 1", x.node(1, 0, 4), 0);
  }

  @Says(in = "T3", value = "TO SETTLE a LINE at a NODE: is there none, or is it itself: nothing.")
  static void t3_settleNothing() {
    // itself: what 0 has stays, and more comes to it
    CountedTokens x = fresh();
    read(x, 0, 0);
    x.store(0, 0, 5);
    x.set(3, 2);
    forGood(x);
    has(x, 0, 0, 1, 0, 1, 0);
    is("nothing sent", x.look(13), 0);
    x.load(1, 0);
    forGood(x);
    come(x, 1, 0, 4);
    is("its own TURN", x.node(0, 0, 4), 0);
    has(x, 0, 0, 1, 0, 1, 0);
    // none: the recall comes where nobody else waits
    x = activeAtHome();
    int many = x.look(6);
    come(x, 0, HOME, 5);
    is("nothing sent", x.look(6), many - 1);
    has(x, HOME, 0, 1, 0, 1, 0);
  }

  @Says(in = "T3", value = "Else, COUNT above 0: to write: all goes to that one, with DATA, if OWNER.")
  static void t3_settleToWrite() {
    CountedTokens x = fresh();
    own(x, 2, 0, 44);
    read(x, 1, 0);
    x.set(3, 2);
    x.store(0, 0, 5);
    forGood(x);
    come(x, 0, 2, 4);
    letter(x, last(x), 2, 0, 3, 0, 7, 1, 44, 0, 0);
    has(x, 2, 0, 0, 0, 0, NONE);
    come(x, 0, 1, 4);
    letter(x, last(x), 1, 0, 3, 0, 1, 0, NONE, 0, 0);
    has(x, 1, 0, 0, 0, 0, NONE);
    int many = x.look(6);
    come(x, 0, HOME, 4);
    is("COUNT 0: nothing", x.look(6), many - 1);
  }

  @Says(in = "T3", value = "To read: COUNT above 1: all but one go, OWNER among them, if it is there, with DATA then")
  static void t3_settleToRead() {
    CountedTokens x = fresh();
    own(x, 2, 0, 44);
    x.load(1, 0);
    x.tick(6);
    quiet(x);
    has(x, 1, 0, 2, 0, 1, 44);
    has(x, 2, 0, 6, 1, 1, 44);
    x.set(3, 2);
    x.load(0, 0);
    forGood(x);
    come(x, 0, 1, 4);
    letter(x, last(x), 1, 0, 3, 0, 1, 0, NONE, 0, 0);
    has(x, 1, 0, 1, 0, 1, 44);
    come(x, 0, 2, 4);
    letter(x, last(x), 2, 0, 3, 0, 5, 1, 44, 0, 0);
    has(x, 2, 0, 1, 0, 1, 44);
    // two, OWNER among them
    x = fresh(2, 3);
    own(x, 1, 0, 44);
    x.set(3, 2);
    x.load(0, 0);
    x.set(3, 0);
    x.tick(6);
    come(x, 0, 1, 1);
    has(x, 1, 0, 2, 1, 1, 44);
    x.set(4, 1);
    x.tick(2);
    come(x, 0, 1, 4);
    letter(x, last(x), 1, 0, 3, 0, 1, 1, 44, 0, 0);
    has(x, 1, 0, 1, 0, 1, 44);
  }

  @Says(in = "T3", value = "else it goes, if it is OWNER, with DATA")
  static void t3_settleTheOnlyOne() {
    CountedTokens x = fresh(3, 3);
    own(x, 2, 0, 44);
    read(x, 1, 0);
    read(x, 0, 0);
    x.evict(0, 0);
    quiet(x);
    has(x, 2, 0, 1, 1, 1, 44);
    x.set(3, 2);
    x.load(0, 0);
    forGood(x);
    int many = x.look(6);
    come(x, 0, 1, 4);
    is("not OWNER: nothing", x.look(6), many - 1);
    has(x, 1, 0, 1, 0, 1, 44);
    come(x, 0, 2, 4);
    letter(x, last(x), 2, 0, 3, 0, 1, 1, 44, 0, 0);
    has(x, 2, 0, 0, 0, 0, NONE);
  }

  @Says(in = "T3", value = "(At HOME, and where a MISS is of that LINE, too.)")
  static void t3_settleWhereAMissIs() {
    CountedTokens x = fresh();
    read(x, 1, 0);
    x.set(3, 2);
    x.store(1, 0, 11);
    x.store(0, 0, 10);
    forGood(x);
    is("1 asks for good itself", x.miss(1, 5), 1);
    come(x, 0, 1, 4);
    letter(x, last(x), 1, 0, 3, 0, 1, 0, NONE, 0, 0);
    has(x, 1, 0, 0, 0, 0, NONE);
    is("it has its MISS", x.miss(1, 0), 0);
    come(x, 0, HOME, 4);
    letter(x, last(x), HOME, 0, 3, 0, 7, 1, 0, 0, 0);
    // TOKENS that come to it go on to the one whose turn it is
    come(x, 1, 2, 4);
    has(x, HOME, 0, 0, 0, 0, NONE);
    come(x, HOME, 0, 3);
    come(x, 1, 0, 3);
    is("0 ended, knows nothing of 1", x.cost(0, 1), 1);
    x.evict(0, 0);
    come(x, 0, HOME, 3);
    letter(x, last(x), HOME, 0, 3, 0, 8, 1, 10, 0, 0);
  }

  // ---- Terms 3: asking for good

  @Says(in = "T3", value = "SEQ of its own entry one more, ACTIVE, that LINE, to read (LOAD) or to write, not MARKED")
  static void t3_ownEntry() {
    CountedTokens x = threeForGood();
    entry(x, 0, 0, 1, 1, 0, 2, 0);
    entry(x, 1, 1, 1, 1, 0, 2, 0);
    entry(x, 2, 2, 1, 1, 1, 1, 0);
    entry(x, 0, 1, 0, 0, 0, 0, 0);
    x = fresh();
    x.add(1, 7, 5);
    forGood(x);
    entry(x, 1, 1, 1, 1, 7, 2, 0);
    quiet(x);
    entry(x, 1, 1, 1, 0, 7, 2, 0);
    x.load(1, 6);
    x.tick(3);
    entry(x, 1, 1, 2, 1, 6, 1, 0);
  }

  @Says(in = "T3", value = "a MESSAGE 4 with all that to each other CPU in order, HOME; FOR GOOD is 1")
  static void t3_message4() {
    CountedTokens x = fresh(4, 8);
    x.set(3, 2);
    x.load(2, 7);
    forGood(x);
    row(x, 16, 10, 11, 13, 16, 10, 11, 13, 16, 40, 41, 43, 46);
    for (int i = 9; i < 13; i++) letter(x, i, 2, i == 12 ? HOME : i == 11 ? 3 : i - 9, 4, 7, 0, 0, NONE, 1, 1);
    is("FOR GOOD", x.miss(2, 5), 1);
    x.store(0, 7, 5);
    forGood(x);
    letter(x, last(x), 0, HOME, 4, 7, 0, 0, NONE, 1, 2);
  }

  @Says(in = "T3", value = "is SEQ in its TABLE of FROM less: the entry is as told, ACTIVE, not MARKED; that LINE is SETTLED (else nothing)")
  static void t3_message4Comes() {
    CountedTokens x = fresh();
    x.load(2, 5);
    x.tick(6);
    quiet(x);
    is("2 has two", x.node(2, 5, 0), 2);
    x.load(0, 5);
    forGood(x);
    come(x, 0, HOME, 4);
    entry(x, HOME, 0, 1, 1, 5, 1, 0);
    come(x, HOME, 0, 3);
    come(x, 0, 2, 5);
    entry(x, 2, 0, 1, 0, 0, 0, 0);
    // behind its own recall: SEQ is not less
    int many = x.look(6);
    come(x, 0, 2, 4);
    entry(x, 2, 0, 1, 0, 0, 0, 0);
    is("nothing sent", x.look(6), many - 1);
    is("2 has two", x.node(2, 5, 0), 2);
    // the next one is more
    Edges.allOf(x, 4);
    Edges.allOf(x, 5);
    quiet(x);
    x.store(0, 5, 1);
    x.tick(3);
    come(x, 0, 2, 4);
    entry(x, 2, 0, 2, 1, 5, 2, 0);
    is("2 has none", x.node(2, 5, 0), 0);
  }

  @Says(in = "T3", value = "is SEQ there not more: SEQ is that, not ACTIVE, not MARKED (LINE, WHAT stay)")
  static void t3_message5Comes() {
    CountedTokens x = fresh();
    x.store(0, 5, 9);
    forGood(x);
    come(x, 0, 1, 4);
    come(x, 0, HOME, 4);
    come(x, HOME, 0, 3);
    // equal
    entry(x, 1, 0, 1, 1, 5, 2, 0);
    come(x, 0, 1, 5);
    entry(x, 1, 0, 1, 0, 5, 2, 0);
    // less: the recall comes first
    come(x, 0, 2, 5);
    entry(x, 2, 0, 1, 0, 0, 0, 0);
    // a MARKED one is MARKED no more
    x = threeForGood();
    Edges.allOf(x, 4);
    Edges.allOf(x, 3);
    is("1 is MARKED at 0", x.table(0, 1, 4), 1);
    come(x, 0, 1, 3);
    come(x, 1, 0, 5);
    entry(x, 0, 1, 1, 0, 0, 2, 0);
  }

  @Says(in = "T3", value = "the MESSAGE's LINE is SETTLED (else nothing)")
  static void t3_message5Settles() {
    // HOME has one TOKEN left that 0 did not need to read; 1 waits to write
    CountedTokens x = activeAtHome();
    x.store(1, 0, 5);
    forGood(x);
    come(x, 1, HOME, 4);
    is("THE TURN at HOME", x.node(HOME, 0, 4), 0);
    has(x, HOME, 0, 1, 0, 1, 0);
    come(x, 0, HOME, 5);
    is("THE TURN at HOME", x.node(HOME, 0, 4), 1);
    letter(x, last(x), HOME, 1, 3, 0, 1, 0, NONE, 0, 0);
    has(x, HOME, 0, 0, 0, 0, NONE);
  }

  @Says(in = "T3", value = "what it is for is done (SEEN, LINE USED), there is none any more")
  static void t3_whatAMissIsFor() {
    CountedTokens x = fresh();
    own(x, 2, 0, 9999);
    x.add(0, 0, 3);
    forGood(x);
    quiet(x);
    is("SEEN", x.seen(0, 0), 9999);
    has(x, 0, 0, 8, 1, 1, 2);
    is("USED", x.node(0, 0, 6), 0);
    is("none any more", x.miss(0, 0), NONE);
    is("ENDED", x.cost(0, 1), 1);
    is("no HIT", x.cost(0, 0), 0);
    x.store(1, 0, 4);
    quiet(x);
    has(x, 1, 0, 8, 1, 1, 4);
    is("nothing SEEN", x.seen(1, NONE), 0);
  }

  @Says(in = "T3", value = "was it FOR GOOD: its own entry is not ACTIVE; all others that are ACTIVE for that LINE in its own TABLE are MARKED")
  static void t3_markedWhenItEnds() {
    CountedTokens x = threeForGood();
    Edges.allOf(x, 4);
    is("not MARKED yet", x.table(0, 1, 4), 0);
    come(x, HOME, 0, 3);
    is("0 is through", x.cost(0, 1), 1);
    entry(x, 0, 0, 1, 0, 0, 2, 0);
    entry(x, 0, 1, 1, 1, 0, 2, 1);
    // for another LINE: not MARKED
    entry(x, 0, 2, 1, 1, 1, 1, 0);
    // in the TABLES of others: not MARKED
    entry(x, 2, 1, 1, 1, 0, 2, 0);
    // a lesser CPU is MARKED as well, if TOKENS come to one whose turn it is not, but who can do with them
    x = zeroIsMarkedAtOne();
    entry(x, 1, 0, 1, 1, 0, 2, 1);
    entry(x, 1, 1, 1, 0, 0, 2, 0);
    // a MISS that was not for good marks nobody, recalls nothing
    x = fresh();
    x.set(3, 2);
    x.store(1, 0, 5);
    forGood(x);
    come(x, 1, 0, 4);
    x.set(4, 20);
    x.load(0, 0);
    come(x, 0, HOME, 1);
    come(x, HOME, 0, 3);
    is("0 is through", x.cost(0, 1), 1);
    entry(x, 0, 1, 1, 1, 0, 2, 0);
    is("no recall", Edges.find(x, 0, HOME, 5), NONE);
  }

  @Says(in = "T3", value = "a MESSAGE 5 with SEQ and LINE to each other CPU in order, HOME (ahead of SETTLING)")
  static void t3_recallAheadOfSettling() {
    CountedTokens x = threeForGood();
    Edges.allOf(x, 4);
    come(x, HOME, 0, 3);
    int first = x.look(6) - 4;
    letter(x, first, 0, 1, 5, 0, 0, 0, NONE, 1, 0);
    letter(x, first + 1, 0, 2, 5, 0, 0, 0, NONE, 1, 0);
    letter(x, first + 2, 0, HOME, 5, 0, 0, 0, NONE, 1, 0);
    letter(x, first + 3, 0, 1, 3, 0, 8, 1, 10, 0, 0);
  }

  // ---- Terms 3: a TICK

  @Says(in = "T3", value = "for whom TICK less LATEST is PATIENCE at least")
  static void t3_patience() {
    for (int patience : new int[] {1, 2, 6, 20}) {
      CountedTokens x = fresh();
      x.set(4, patience);
      x.tick(7);
      x.load(0, 0);
      if (patience > 1) x.tick(patience - 1);
      is("not yet, PATIENCE " + patience, x.miss(0, 3), 1);
      x.tick(1);
      is("now, PATIENCE " + patience, x.miss(0, 3), 2);
      is("LATEST", x.miss(0, 4), 7 + patience);
    }
    // at least: PATIENCE became less in between
    CountedTokens x = fresh();
    x.set(4, 20);
    x.load(0, 0);
    x.tick(10);
    x.set(4, 3);
    is("not by telling", x.miss(0, 3), 1);
    x.tick(1);
    is("TICK less LATEST is 11", x.miss(0, 3), 2);
  }

  @Says(in = "T3", value = "CPU by CPU that has a MISS, not FOR GOOD")
  static void t3_forGoodIsAskedOnce() {
    CountedTokens x = fresh();
    x.load(0, 0);
    forGood(x);
    int many = x.look(6);
    x.tick(99);
    is("nothing more", x.look(6), many);
    is("once", x.look(10), 1);
    is("LATEST", x.miss(0, 4), 2);
    // CPU by CPU
    x = fresh();
    x.set(3, 2);
    x.set(4, 1);
    x.load(2, 2);
    x.load(0, 0);
    x.tick(1);
    row(x, 16, 16, 11, 12, 16, 10, 11, 16);
    Edges.traced(x, 622, 600, 100, 122);
  }

  @Says(in = "T3", value = "is ISSUED below 3: one more, LATEST is TICK, it ASKS.")
  static void t3_issued() {
    CountedTokens x = fresh();
    x.set(4, 5);
    x.load(0, 0);
    x.tick(5);
    is("ISSUED", x.miss(0, 3), 2);
    is("LATEST", x.miss(0, 4), 5);
    is("MESSAGES", x.look(6), 6);
    x.tick(5);
    is("ISSUED", x.miss(0, 3), 3);
    is("LATEST", x.miss(0, 4), 10);
    is("MESSAGES", x.look(6), 9);
    is("not for good", x.miss(0, 5), 0);
    x.tick(5);
    is("ISSUED", x.miss(0, 3), 3);
    is("for good", x.miss(0, 5), 1);
    Edges.traced(x, 300, 600, 600, 100);
  }

  /** 0 was through for good with LINE 0; 4 and 5 of it are on their way to 1 alone; it MISSES LINE 1. */
  private static CountedTokens recallsOnTheirWay() {
    CountedTokens x = fresh();
    own(x, 2, 1, 5);
    x.set(3, 2);
    x.store(0, 0, 9);
    forGood(x);
    Edges.allOf(x, 2);
    come(x, HOME, 0, 3);
    Edges.allOf(x, 2);
    come(x, 0, 2, 4);
    come(x, 0, HOME, 4);
    come(x, 0, 2, 5);
    come(x, 0, HOME, 5);
    row(x, 41, 51);
    x.set(3, 1);
    x.load(0, 1);
    x.tick(2);
    is("ISSUED", x.miss(0, 3), 3);
    return x;
  }

  @Says(in = "T3", value = "is a MESSAGE 4, 5 FROM it (of whatever LINE) on its way")
  static void t3_waitsForItsOwnMessages() {
    CountedTokens x = recallsOnTheirWay();
    x.tick(1);
    is("not for good", x.miss(0, 5), 0);
    is("LATEST is TICK", x.miss(0, 4), x.look(5));
    is("ISSUED", x.miss(0, 3), 3);
    is("it ASKS", x.message(last(x), 2), 1);
    Edges.traced(x, 601, 601, 601, 101);
    come(x, 0, 1, 4);
    x.tick(1);
    is("a 5 alone", x.miss(0, 5), 0);
    come(x, 0, 1, 5);
    x.tick(1);
    is("none", x.miss(0, 5), 1);
    x = recallsOnTheirWay();
    come(x, 0, 1, 5);
    x.tick(1);
    is("a 4 alone", x.miss(0, 5), 0);
    come(x, 0, 1, 4);
    x.tick(1);
    is("none", x.miss(0, 5), 1);
    // those of others don't matter: 1 and 2 asked for good behind 0
    x = threeForGood();
    is("4 FROM 0 are on their way", Edges.find(x, 0, 1, 4) != NONE, true);
    is("1 asked for good", x.miss(1, 5), 1);
    is("2 asked for good", x.miss(2, 5), 1);
  }

  /** 0 was through for LINE 0, 1 still waits and is MARKED at 0; none of 0's MESSAGES is on its way. */
  private static CountedTokens markedAtZero() {
    CountedTokens x = fresh();
    x.set(3, 2);
    x.store(0, 0, 10);
    x.store(1, 0, 11);
    forGood(x);
    Edges.allOf(x, 2);
    come(x, 1, 0, 4);
    come(x, 0, 1, 4);
    come(x, 0, 2, 4);
    come(x, 0, HOME, 4);
    come(x, HOME, 0, 3);
    come(x, 0, 1, 5);
    come(x, 0, 2, 5);
    come(x, 0, HOME, 5);
    entry(x, 0, 1, 1, 1, 0, 2, 1);
    return x;
  }

  /** HOME heard of 1 alone, 1 of 0, too: 1 is through, 0 waits and is MARKED at 1; all 4, 5 of 1 came. */
  private static CountedTokens zeroIsMarkedAtOne() {
    CountedTokens x = fresh();
    x.set(3, 2);
    x.store(0, 0, 10);
    x.store(1, 0, 11);
    forGood(x);
    come(x, 0, 1, 4);
    come(x, 1, HOME, 4);
    come(x, HOME, 1, 3);
    is("1 is through", x.cost(1, 1), 1);
    for (int kind = 4; kind <= 5; kind++) {
      for (int to : new int[] {0, 2, HOME}) if (Edges.find(x, 1, to, kind) != NONE) come(x, 1, to, kind);
    }
    return x;
  }

  @Says(in = "T3", value = "anything for that LINE both MARKED and ACTIVE in its own TABLE: LATEST is TICK, it ASKS.")
  static void t3_waitsForWhoIsMarked() {
    CountedTokens x = markedAtZero();
    x.load(0, 0);
    x.tick(2);
    for (int i = 0; i < 5; i++) {
      x.tick(1);
      is("not for good", x.miss(0, 5), 0);
      is("LATEST", x.miss(0, 4), x.look(5));
      is("ISSUED", x.miss(0, 3), 3);
    }
    // 1 is through and says so: MARKED no more
    come(x, 0, 1, 3);
    is("1 is through", x.cost(1, 1), 1);
    come(x, 1, 0, 5);
    x.tick(1);
    is("for good", x.miss(0, 5), 1);
    // CPU 0 can be the one who is MARKED
    x = zeroIsMarkedAtOne();
    x.load(1, 0);
    x.tick(4);
    is("not for good", x.miss(1, 5), 0);
    // MARKED for another LINE doesn't matter
    x = markedAtZero();
    x.load(0, 1);
    x.tick(3);
    is("for good", x.miss(0, 5), 1);
    // ACTIVE, but not MARKED doesn't matter
    x = fresh();
    x.set(3, 2);
    x.store(1, 0, 11);
    forGood(x);
    come(x, 1, 0, 4);
    entry(x, 0, 1, 1, 1, 0, 2, 0);
    x.store(0, 0, 10);
    x.tick(3);
    is("for good", x.miss(0, 5), 1);
  }

  @Says(in = "T3", value = "(A CPU asks for good of a LINE anew only when all are through who were ACTIVE for it when it was through itself.)")
  static void t3_anewOnlyWhenAllAreThrough() {
    CountedTokens x = fresh();
    x.set(3, 2);
    for (int c = 0; c < 3; c++) x.store(c, 0, 10 + c);
    forGood(x);
    Edges.allOf(x, 2);
    Edges.allOf(x, 4);
    come(x, HOME, 0, 3);
    Edges.allOf(x, 5);
    x.load(0, 0);
    x.tick(5);
    is("two are ahead", x.miss(0, 5), 0);
    come(x, 0, 1, 3);
    come(x, 1, 0, 5);
    x.tick(1);
    is("one is ahead", x.miss(0, 5), 0);
    come(x, 1, 2, 3);
    come(x, 2, 0, 5);
    x.tick(1);
    is("for good", x.miss(0, 5), 1);
    is("both are through", x.look(9), 3);
  }

  public static void main(String[] args) throws Exception { Edges.run(TermEdgesTest.class); }
}
