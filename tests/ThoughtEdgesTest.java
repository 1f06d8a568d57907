/** The boundary cases that the Terms 5 name, each by itself: SOON, THE WALK, CAN, WORTH, THE IMAGE. */
public final class ThoughtEdgesTest {
  private static final int NONE = Edges.NONE;
  private static final int HOME = Edges.HOME;

  private static void is(String call, int got, int due) { Edges.is(call, got, due); }
  private static void is(String call, boolean got, boolean due) { Edges.is(call, got, due); }
  private static CountedTokens fresh() { return Edges.fresh(); }
  private static CountedTokens fresh(int n, int t) { return Edges.fresh(n, t); }
  private static void own(CountedTokens x, int cpu, int line, int v) { Edges.own(x, cpu, line, v); }
  private static void quiet(CountedTokens x) { Edges.quiet(x); }
  private static void row(CountedTokens x, int... kindAndTo) { Edges.row(x, kindAndTo); }
  private static void come(CountedTokens x, int from, int to, int kind) { Edges.come(x, from, to, kind); }

  private static void walk(CountedTokens x, int... five) {
    for (int w = 0; w < 5; w++) is("walk(" + w + ")", x.walk(w), five[w]);
  }

  private static void tooMany(CountedTokens x) { walk(x, NONE, NONE, NONE, NONE, NONE); }

  @Says(in = "T5", value = "IN THOUGHT (nothing of it stays).")
  static void t5_nothingStays() {
    Edges.unchanged(Edges::busy, x -> {
      for (int c = -1; c < 7; c++) x.soon(c);
      for (int w = -1; w < 6; w++) x.walk(w);
      for (int l = -1; l < 9; l++) x.worth(l);
      for (int l = -1; l < 9; l++) x.can(0, l);
    });
  }

  // ---- SOON

  @Says(in = "T5", value = "by how few ROUNDS of CALM (0 .. 60) its MISS of now is ENDED (none: 0; NONE)")
  static void t5_soonIsZeroWithoutAMiss() {
    CountedTokens x = fresh();
    is("none", x.soon(0), 0);
    x.load(1, 0);
    is("another's", x.soon(0), 0);
    is("its own", x.soon(1), 1);
    x.calm(1);
    is("over", x.soon(1), 0);
  }

  /** 1 MISSES LINE 0, which 0 has all of; neither HOME nor a HINT leads there: it must ask for good. */
  private static CountedTokens onlyForGood(int patience) {
    CountedTokens x = fresh();
    x.set(3, 2);
    own(x, 0, 0, 1);
    x.set(3, 1);
    x.set(4, patience);
    x.load(1, 0);
    return x;
  }

  @Says(in = "T5", value = "by how few ROUNDS of CALM (0 .. 60)")
  static void t5_soonUpToSixty() {
    // it asks for good at the end of ROUND 3 times PATIENCE, and is over in the next one
    for (int patience : new int[] {1, 2, 19}) is("PATIENCE " + patience, onlyForGood(patience).soon(1), 3 * patience + 1);
    CountedTokens x = onlyForGood(20);
    is("61", x.soon(1), NONE);
    x.tick(1);
    is("60", x.soon(1), 60);
    x.tick(1);
    is("59", x.soon(1), 59);
    is("three that asked", x.calm(58), 3);
    is("not yet", x.look(15), 1);
    is("one more", x.soon(1), 1);
    x.calm(1);
    is("over", x.look(15), 0);
  }

  // ---- THE WALK

  @Says(in = "T5", value = "how many unlike STATES there are (that of now, too)")
  static void t5_thatOfNow() {
    walk(fresh(), 1, 1, 0, 0, 0);
    CountedTokens x = fresh();
    x.set(3, 2);
    x.load(0, 0);
    walk(x, 3, 1, 0, 2, 0);
    x.deliver(0);
    walk(x, 2, 1, 0, 1, 0);
    x.deliver(0);
    walk(x, 1, 1, 0, 0, 0);
  }

  @Says(in = "T5", value = "or not the same MESSAGES (in whatever order) are on their way")
  static void t5_ordersOfMessages() {
    // two that cause nothing: both, either, none
    CountedTokens x = fresh();
    x.load(0, 0);
    come(x, 0, HOME, 1);
    come(x, HOME, 0, 3);
    row(x, 11, 12);
    walk(x, 4, 1, 0, 2, 0);
    // two pairs of MESSAGES that are alike
    x = fresh();
    x.load(0, 0);
    x.tick(6);
    come(x, 0, HOME, 1);
    come(x, HOME, 0, 3);
    come(x, 0, HOME, 1);
    come(x, HOME, 0, 3);
    row(x, 11, 12, 11, 12);
    walk(x, 9, 1, 0, 4, 0);
  }

  @Says(in = "T5", value = "the order in which a CPU has USED the LINES that it HAS")
  static void t5_ordersOfUse() {
    // late TOKENS of the LINES 0 and 1, which come in either order
    CountedTokens x = fresh();
    for (int l = 0; l < 2; l++) {
      x.load(0, l);
      x.tick(6);
      Edges.allOf(x, 1);
      x.deliver(x.look(6) - 1);
      x.evict(0, l);
      come(x, 0, HOME, 3);
    }
    row(x, 30, 30);
    is("no MISS", x.look(15), 0);
    walk(x, 5, 2, 0, 2, 0);
  }

  @Says(in = "T5", value = "COUNT, OWNER, VALID, DATA of a LINE at a NODE")
  static void t5_whatComesOfWhoIsFirst() {
    // two write LINE 0: who is asked, who is answered first, what it holds then
    CountedTokens x = fresh(2, 2);
    x.set(3, 2);
    x.store(0, 0, 7);
    x.store(1, 0, 8);
    // none came, one of two, its TOKENS, both with TOKENS on their way, and there
    walk(x, 9, 2, 2, 3, 0);
  }

  @Says(in = "T5", value = "the MISS of a CPU (LINE, WHAT, v, FOR GOOD)")
  static void t5_whetherAMissIsOver() {
    // TOKENS for HOME, and a MESSAGE that asks HOME: if that comes first, 1 keeps its MISS
    CountedTokens x = fresh(2, 2);
    x.set(3, 2);
    own(x, 0, 0, 7);
    x.evict(0, 0);
    x.load(1, 0);
    row(x, 36, 16);
    walk(x, 6, 2, 1, 2, 0);
  }

  @Says(in = "T5", value = "an entry of a TABLE (SEQ, ACTIVE, LINE, WHAT, MARKED) is unlike")
  static void t5_entriesOfTables() {
    // 4 and 5 of 0 to 1: in order LINE and WHAT are told, behind its recall they are not
    CountedTokens x = fresh(2, 8);
    x.set(3, 2);
    x.store(0, 7, 5);
    Edges.forGood(x);
    Edges.allOf(x, 2);
    come(x, HOME, 0, 3);
    come(x, 0, HOME, 4);
    come(x, 0, HOME, 5);
    row(x, 41, 51);
    // both, ACTIVE, recalled first, and the two ends
    walk(x, 5, 2, 0, 2, 0);
  }

  @Says(in = "T5", value = "in how many of them there is no MESSAGE")
  static void t5_withoutMessages() {
    walk(fresh(), 1, 1, 0, 0, 0);
    CountedTokens x = fresh(2, 8);
    x.set(3, 2);
    x.load(0, 0);
    x.store(1, 0, 5);
    // 0 first: one TOKEN goes to it and seven to 1; 1 first: eight go to 1, and 0 gets nothing
    is("two ends", x.walk(1), 2);
    is("a MISS in each", x.walk(2), 2);
  }

  @Says(in = "T5", value = "with those that they cause, no TICKS")
  static void t5_noTicks() {
    // nobody answers, and PATIENCE would be over at the next TICK: nothing comes of it
    CountedTokens x = fresh();
    x.set(3, 2);
    own(x, 0, 0, 1);
    x.set(4, 1);
    x.load(1, 0);
    walk(x, 2, 1, 1, 1, 0);
    is("soon", x.soon(1), 2);
  }

  @Says(in = "T5", value = "in how many of these some CPU has a MISS")
  static void t5_aMissStays() {
    CountedTokens x = fresh();
    x.set(3, 2);
    own(x, 0, 0, 1);
    x.load(1, 0);
    walk(x, 2, 1, 1, 1, 0);
    x.deliver(0);
    walk(x, 1, 1, 1, 0, 0);
    x.load(2, 0);
    walk(x, 2, 1, 1, 1, 0);
  }

  @Says(in = "T5", value = "by how few deliveries one comes to one of these without MESSAGES")
  static void t5_fewestDeliveries() {
    // HOME, asked while it has nothing, answers nothing: two deliveries; else there is one more
    CountedTokens x = fresh(2, 2);
    own(x, 1, 0, 5);
    x.evict(1, 0);
    x.set(3, 2);
    x.load(0, 0);
    row(x, 36, 16);
    is("two", x.walk(3), 2);
    x.deliver(0);
    is("ask, answer", x.walk(3), 2);
    x.deliver(0);
    is("answer", x.walk(3), 1);
    x.deliver(0);
    is("none", x.walk(3), 0);
  }

  @Says(in = "T5", value = "whether one can come back to a STATE by some of these deliveries (1, 0)")
  static void t5_comingBack() {
    // 0 and 1 are through for good, and neither has heard so of the other: TOKENS go to and fro
    CountedTokens x = fresh(2, 8);
    x.set(3, 2);
    x.store(0, 0, 1);
    x.store(1, 0, 2);
    Edges.forGood(x);
    Edges.allOf(x, 2);
    Edges.allOf(x, 4);
    come(x, HOME, 0, 3);
    come(x, 0, 1, 3);
    is("both are through", x.look(9), 2);
    Edges.allOf(x, 2);
    row(x, 51, 56, 50, 56, 30);
    is("there and back", x.walk(4), 1);
    is("one each", x.walk(3), 5);
    come(x, 0, 1, 5);
    is("1 has heard it: TOKENS stay with it", x.walk(4), 0);
    come(x, 1, 0, 5);
    is("both have heard it", x.walk(4), 0);
  }

  @Says(in = "T5", value = "whether one can come back to a STATE")
  static void t5_comingBackAmongMany() {
    // 108 STATES, of which many can be left for good, and a ring among the others
    CountedTokens x = fresh(2, 4);
    x.set(2, 1);
    x.set(3, 1);
    x.set(4, 1);
    x.store(0, 0, 0);
    x.load(1, 0);
    x.tick(3);
    x.deliver(0);
    for (int k : new int[] {6, 0, 0, 0, 0, 4, 0}) x.deliver(k);
    x.tick(1);
    for (int k : new int[] {0, 2, 0}) x.deliver(k);
    x.load(0, 1);
    is("STATES", x.walk(0), 108);
    is("there and back", x.walk(4), 1);
  }

  @Says(in = "T5", value = "(More than 250 STATES, or one with more than 24 MESSAGES: NONE, all.)")
  static void t5_250States() {
    CountedTokens x = fresh(2, 8);
    x.set(3, 1);
    x.set(4, 1);
    x.load(0, 1);
    x.deliver(0);
    x.tick(3);
    x.deliver(0);
    walk(x, 250, 4, 0, 7, 0);
    x = fresh(2, 4);
    x.set(3, 1);
    x.set(4, 1);
    x.set(2, 3);
    x.load(1, 0);
    x.load(0, 0);
    x.tick(2);
    tooMany(x);
    x.deliver(0);
    is("fewer then", x.walk(0) > 0, true);
    // 12 times 12, times 12
    x = fresh();
    x.load(0, 0);
    x.load(1, 1);
    walk(x, 144, 1, 0, 8, 0);
    x.load(2, 2);
    tooMany(x);
  }

  @Says(in = "T5", value = "or one with more than 24 MESSAGES: NONE, all")
  static void t5_24Messages() {
    // 0 asks HOME, which has nothing, again and again, MESSAGES that are alike; two recalls of before
    // keep it from asking for good
    CountedTokens x = fresh(2, 8);
    x.set(3, 1);
    own(x, 1, 3, 1);
    x.store(0, 0, 1);
    Edges.forGood(x);
    Edges.allOf(x, 2);
    Edges.allOf(x, 3);
    Edges.allOf(x, 4);
    row(x, 51, 56);
    x.load(0, 3);
    x.tick(21);
    is("24 on their way", x.look(6), 24);
    walk(x, 23 * 4, 1, 1, 24, 0);
    x.tick(1);
    is("25 on their way", x.look(6), 25);
    tooMany(x);
    x.deliver(24);
    walk(x, 23 * 4, 1, 1, 24, 0);
  }

  @Says(in = "T5", value = "one with more than 24 MESSAGES")
  static void t5_24MessagesNowMoreThen() {
    // 1 asks HOME again and again, one recall of before keeps it from asking for good; the TOKENS that
    // come to 0 end its MISS for good, which sends two recalls: one MESSAGE more than now
    CountedTokens x = fresh(2, 8);
    x.set(3, 1);
    own(x, 0, 3, 1);
    x.store(1, 0, 1);
    Edges.forGood(x);
    come(x, 1, HOME, 4);
    come(x, HOME, 1, 3);
    Edges.allOf(x, 2);
    come(x, 1, 0, 4);
    come(x, 1, 0, 5);
    x.store(0, 5, 1);
    x.tick(3);
    come(x, 0, HOME, 4);
    Edges.allOf(x, 2);
    come(x, 0, 1, 4);
    row(x, 56, 30);
    x.load(1, 3);
    x.tick(20);
    is("23 now, 24 then", x.look(6), 23);
    walk(x, 2 * 22 * 5, 1, 1, 25, 0);
    x.tick(1);
    is("24 now, 25 then", x.look(6), 24);
    tooMany(x);
  }

  // ---- CAN, WORTH

  @Says(in = "T5", value = "2 if a STORE would be a HIT now, else 1 if a LOAD would, else 0")
  static void t5_can() {
    CountedTokens x = fresh();
    is("none", x.can(0, 0), 0);
    Edges.read(x, 0, 0);
    is("one", x.can(0, 0), 1);
    own(x, 0, 0, 5);
    is("all", x.can(0, 0), 2);
    Edges.read(x, 1, 0);
    is("all but one", x.can(0, 0), 1);
    x.store(2, 0, 6);
    come(x, 2, 1, 2);
    come(x, 1, 2, 3);
    is("one without DATA", x.can(2, 0), 0);
    is("none", x.can(1, 0), 0);
  }

  @Says(in = "T5", value = "WORTH of a LINE: DATA where its OWNER token is (at a NODE, or on its way).")
  static void t5_worth() {
    CountedTokens x = fresh();
    is("at HOME", x.worth(0), 0);
    x.store(0, 0, 9999);
    come(x, 0, HOME, 2);
    is("on its way, as it was", x.worth(0), 0);
    quiet(x);
    is("at a CPU", x.worth(0), 9999);
    Edges.read(x, 1, 0);
    x.evict(0, 0);
    is("on its way", x.worth(0), 9999);
    is("at which NODE", x.where(0, 0), NONE);
    x.evict(1, 0);
    is("others on their way say nothing", x.worth(0), 9999);
    quiet(x);
    is("at HOME", x.worth(0), 9999);
    is("of another LINE", x.worth(1), 0);
  }

  // ---- THE IMAGE

  @Says(in = "T5", value = "all that is and was told but the TAPE and fault(), as it was when it was taken")
  static void t5_allThatIsAndWasTold() {
    // All answers after going back are those of the moment when it was taken
    int[] before = Edges.answers(ThoughtEdgesTest::toldAndFed);
    int[] after = Edges.answers(() -> {
      CountedTokens x = toldAndFed();
      x.image(true);
      upset(x);
      x.image(false);
      // the TAPE and fault() are not in it: told anew as they were
      Due.text(x, 3, "load 9;");
      return x;
    });
    is("all is as it was", java.util.Arrays.equals(before, after), true);
  }

  /** Something of everything, an empty TAPE, and a FAULT. */
  private static CountedTokens toldAndFed() {
    CountedTokens x = Edges.busy();
    x.set(0, 3);
    x.end(0);
    Due.text(x, 3, "load 9;");
    return x;
  }

  /** As much as can be is told and comes otherwise. */
  private static void upset(CountedTokens x) {
    x.state(99);
    x.set(2, 7);
    x.set(4, 9);
    x.go(20, 2);
    x.run(2);
    x.calm(60);
    for (int c = 0; c < 3; c++) for (int l = 0; l < 8; l++) x.evict(c, l);
    quiet(x);
    is("n is told", x.set(0, 6), true);
    is("t is told", x.set(1, 12), true);
    for (int k = 0; k < 6; k++) Due.text(x, k, "again 9{again 5{load 6;}}rest 5;");
    Due.text(x, 6, "tick 5; calm 5; tick 2; tick 3;");
    is("more lines of THE TRACE than are kept", x.go(60, 1) > 0 && x.look(18) > 200, true);
    x.set(3, 0);
    x.set(4, 1);
    for (int c = 0; c < 6; c++) x.store(c, c, 4);
    x.tick(2);
    is("DROPPED", x.look(7) > 0, true);
    x.run(3);
  }

  @Says(in = "T5", value = "as it was when it was taken")
  static void t5_allGoesOnFromIt() {
    int[] before = Edges.answers(() -> goneOn(toldAndFed()));
    int[] after = Edges.answers(() -> {
      CountedTokens x = toldAndFed();
      x.image(true);
      upset(x);
      x.image(false);
      Due.text(x, 3, "load 9;");
      return goneOn(x);
    });
    is("all goes on as it did", java.util.Arrays.equals(before, after), true);
  }

  private static CountedTokens goneOn(CountedTokens x) {
    x.run(2);
    x.go(12, 2);
    x.calm(2);
    x.go(3, 1);
    return x;
  }

  @Says(in = "T5", value = "THE IMAGE: all that is")
  static void t5_whereAMissBegan() {
    CountedTokens x = fresh();
    x.tick(3);
    x.load(0, 0);
    x.image(true);
    x.tick(9);
    quiet(x);
    x.load(0, 1);
    x.image(false);
    x.tick(2);
    quiet(x);
    is("it took two", x.cost(0, 2), 2);
    is("one", x.cost(0, 1), 1);
  }

  @Says(in = "T5", value = "but the TAPE and fault()")
  static void t5_notTheTape() {
    CountedTokens x = fresh();
    Due.feed(x, "load 1; load");
    x.image(true);
    x.end(7);
    is("text(0)", x.text(0), 1);
    Due.text(x, 0, "x");
    Due.feed(x, "rest 1;");
    x.image(false);
    is("fault(0)", x.fault(0), 1);
    is("fault(1)", x.fault(1), 0);
    is("the PROGRAM of then", x.program(0, 0), 0);
    is("the TAPE of now", x.end(8), false);
    is("the TAPE of now", x.text(0), 1);
    is("fault(0)", x.fault(0), 0);
    x.image(false);
    is("fault(0)", x.fault(0), 0);
    is("the TAPE is empty", x.end(1), false);
  }

  @Says(in = "T5", value = "gone back to it may be more than once")
  static void t5_moreThanOnce() {
    CountedTokens x = fresh();
    x.tick(5);
    x.image(true);
    for (int i = 0; i < 4; i++) {
      x.load(0, i);
      x.tick(7);
      is("gone back", x.image(false), true);
      is("TICK", x.look(5), 5);
      is("no MISS", x.look(15), 0);
      is("no MESSAGES", x.look(6), 0);
    }
    // the latest that was taken counts
    x.tick(1);
    x.image(true);
    x.tick(1);
    x.image(false);
    is("TICK", x.look(5), 6);
  }

  public static void main(String[] args) throws Exception { Edges.run(ThoughtEdgesTest.class); }
}
