/** The boundary cases that the Terms 4 name, each by itself: PROGRAMS, GO, CALM, THE PLAN, THE TRACE. */
public final class TextEdgesTest {
  private static final int NONE = Edges.NONE;
  private static final int HOME = Edges.HOME;

  private static void is(String call, int got, int due) { Edges.is(call, got, due); }
  private static void is(String call, boolean got, boolean due) { Edges.is(call, got, due); }
  private static CountedTokens fresh() { return Edges.fresh(); }
  private static CountedTokens fresh(int n, int t) { return Edges.fresh(n, t); }
  private static void own(CountedTokens x, int cpu, int line, int v) { Edges.own(x, cpu, line, v); }
  private static void quiet(CountedTokens x) { Edges.quiet(x); }
  private static void row(CountedTokens x, int... kindAndTo) { Edges.row(x, kindAndTo); }
  private static void come(CountedTokens x, int from, int to, int kind) { Edges.come(x, from, to, kind); }

  private static void good(int k, String text, int many) {
    CountedTokens x = fresh();
    is("text(" + k + ") of <" + text + ">", Due.text(x, k, text), many);
    is("fault(0) of <" + text + ">", x.fault(0), 0);
    is("fault(1) of <" + text + ">", x.fault(1), NONE);
    is("kept", k == 6 ? x.look(16) : x.program(k, 0), many);
  }

  private static void bad(int k, String text, int fault, int place) {
    CountedTokens x = fresh();
    Due.text(x, k, k == 6 ? "tick 1; tick 2;" : "load 0; load 1;");
    is("text(" + k + ") of <" + text + ">", Due.text(x, k, text), NONE);
    is("fault(0) of <" + text + ">", x.fault(0), fault);
    is("fault(1) of <" + text + ">", x.fault(1), place);
    is("what was told stays", k == 6 ? x.look(16) : x.program(k, 0), 2);
  }

  // ---- PROGRAMS

  @Says(in = "T4", value = "PROGRAMS of CPUS 0 .. 5 are texts (empty at first) = {S}.")
  static void t4_emptyPrograms() {
    CountedTokens x = fresh();
    for (int k = 0; k < 6; k++) is("at first", x.program(k, 0), 0);
    for (int k = 0; k < 6; k++) good(k, "", 0);
    good(0, " ", 0);
    good(0, "\n \n", 0);
    for (int k = 0; k < 6; k++) good(k, "load 0; load 1;", 2);
    bad(6, "load 0;", 1, 0);
  }

  @Says(in = "T4", value = "S = load L ; | store L V ; | add L V ; | rest N ; | again N { {S} }.")
  static void t4_statements() {
    good(0, "load 1 ;", 1);
    good(0, "store 1 2 ;", 1);
    good(0, "add 1 2 ;", 1);
    good(0, "rest 1 ;", 1);
    good(0, "again 1 { }", 0);
    good(0, "again 1 { load 1 ; }", 1);
    bad(0, ";", 1, 0);
    bad(0, "load ;", 1, 5);
    bad(0, "load 1", 1, 6);
    bad(0, "load 1 2;", 1, 7);
    bad(0, "load 1;;", 1, 7);
    bad(0, "store 1;", 1, 7);
    bad(0, "store 1 2 3;", 1, 10);
    bad(0, "add 1 ;", 1, 6);
    bad(0, "rest ;", 1, 5);
    bad(0, "again { }", 1, 6);
    bad(0, "again 1 ; }", 1, 8);
    bad(0, "again 1 { };", 1, 11);
    bad(0, "again 1 { } }", 1, 12);
    bad(0, "{ }", 1, 0);
    bad(0, "1 load 1;", 1, 0);
  }

  @Says(in = "T4", value = "L 0 .. 7")
  static void t4_lineOfAnAct() {
    for (String word : new String[] {"load ", "store ", "add "}) {
      String rest = word.equals("load ") ? ";" : " 5;";
      good(0, word + "0" + rest, 1);
      good(0, word + "7" + rest, 1);
      bad(0, word + "8" + rest, 2, word.length());
      bad(0, word + "9999" + rest, 2, word.length());
      bad(0, word + "10000" + rest, 1, word.length());
      good(6, "5 " + word + "0" + rest, 1);
      good(6, "5 " + word + "7" + rest, 1);
      bad(6, "5 " + word + "8" + rest, 2, 2 + word.length());
    }
    good(6, "0 evict 0;", 1);
    good(6, "0 evict 7;", 1);
    bad(6, "0 evict 8;", 2, 8);
  }

  @Says(in = "T4", value = "V 0 .. 9999")
  static void t4_valueOfAnAct() {
    for (String word : new String[] {"store 1 ", "add 1 "}) {
      good(0, word + "0;", 1);
      good(0, word + "9999;", 1);
      bad(0, word + "10000;", 1, word.length());
      good(6, "0 " + word + "0;", 1);
      good(6, "0 " + word + "9999;", 1);
      bad(6, "0 " + word + "10000;", 1, 2 + word.length());
    }
    CountedTokens x = fresh();
    Due.text(x, 0, "store 1 9999;");
    x.go(1, 0);
    is("v", x.miss(0, 2), 9999);
    is("LINE", x.miss(0, 0), 1);
  }

  @Says(in = "T4", value = "N 1 .. 9")
  static void t4_timesOfAnAct() {
    for (int n : new int[] {1, 9}) {
      good(0, "rest " + n + ";", 1);
      good(0, "again " + n + " { rest 1; }", n);
    }
    for (int n : new int[] {0, 10, 9999}) {
      bad(0, "rest " + n + ";", 2, 5);
      bad(0, "again " + n + " { rest 1; }", 2, 6);
    }
    bad(0, "rest 00000;", 1, 5);
  }

  @Says(in = "T4", value = "again 3 deep at most")
  static void t4_threeDeep() {
    good(0, "again 2{again 2{again 2{load 1;}}}", 8);
    good(0, "again 1{again 1{again 1{}again 1{}}again 1{again 1{}}}again 1{again 1{again 1{load 1;}}}", 1);
    bad(0, "again 2{again 2{again 2{again 2{load 1;}}}}", 3, 24);
  }

  @Says(in = "T4", value = "the S in order (rest, too), those of again so many times; 200 at most")
  static void t4_acts() {
    good(0, "load 1; rest 1; again 3 { load 1; rest 2; } rest 1;", 9);
    good(0, "again 9 { }", 0);
    good(0, "again 5{again 8{again 5{load 1;}}}", 200);
    good(0, "again 9{again 9{load 1;load 2;}}again 9{load 3;load 4;load 5;load 6;}load 7;load 0;", 200);
    bad(0, "again 9{again 9{load 1;load 2;}}again 9{load 3;load 4;load 5;load 6;}load 7;load 0;load 0;", 4, 90);
    // in order, and again in order
    CountedTokens x = fresh();
    own(x, 0, 0, 0);
    Due.text(x, 0, "add 0 1; again 2 { add 0 10; again 2 { add 0 100; } add 0 1000; } add 0 1;");
    x.go(60, 0);
    int[] seen = {0, 1, 11, 111, 211, 1211, 1221, 1321, 1421, 2421};
    is("SEEN", x.seen(0, NONE), 10);
    for (int i = 0; i < 10; i++) is("seen(0, " + i + ")", x.seen(0, i), seen[i]);
    // the 200th is done
    x = fresh();
    own(x, 0, 0, 0);
    Due.text(x, 0, "again 9{again 9{add 0 1;add 0 1;}}again 9{add 0 1;add 0 1;add 0 1;add 0 1;}add 0 1;add 0 7;");
    for (int i = 0; i < 4; i++) x.go(60, 0);
    is("begun", x.program(0, 1), 200);
    is("DATA", x.worth(0), 199 + 7);
  }

  // ---- the tokens of a text

  @Says(in = "T4", value = "letters (a .. z, A .. Z) as many as stand together are KEYWORDS (those told here) or none")
  static void t4_letters() {
    good(0, "load1;load2;", 2);
    for (String none : new String[] {"Load", "LOAD", "loaD", "loa", "loadd", "aload", "loadZ", "loadA", "loadz", "loada", "x", "z", "A", "Z", "tick", "evict", "policy", "deliver"}) {
      bad(0, none + " 1;", 1, 0);
      bad(0, "rest 1;" + none + " 1;", 1, 7);
    }
    bad(0, "lo ad 1;", 1, 0);
    bad(0, "load rest 1;", 1, 5);
    // what stands beside the letters is none of them: @ [ ` {
    for (String sign : new String[] {"@", "[", "`"}) bad(0, "load" + sign + "1;", 1, 4);
    bad(0, "load{1;", 1, 4);
    bad(6, "rest 1;", 1, 0);
    bad(6, "again 1 { }", 1, 0);
    bad(6, "Tick 1;", 1, 0);
    bad(6, "ticktick 1;", 1, 0);
    // however many letters stand ahead of it or behind it
    for (int many = 1; many < 20; many++) {
      bad(0, "x".repeat(many) + "load 1;", 1, 0);
      bad(0, "load" + "x".repeat(many) + " 1;", 1, 0);
      bad(0, "load".repeat(1 + many) + " 1;", 1, 0);
      bad(6, "deliver".repeat(1 + many) + " 1;", 1, 0);
    }
  }

  @Says(in = "T4", value = "digits as many as stand together NUMBERS of 1 to 4 digits or none")
  static void t4_digits() {
    good(0, "load 1;", 1);
    good(0, "load 0001;", 1);
    bad(0, "load 00001;", 1, 5);
    bad(0, "load 123456789012;", 1, 5);
    good(0, "store 7 1234;", 1);
    bad(0, "load 1 2;", 1, 7);
    bad(0, "load 1 1 1;", 1, 7);
    // what stands beside the digits is none of them: / :
    bad(0, "load 1/;", 1, 6);
    bad(0, "load 1:;", 1, 6);
    bad(0, "load -1;", 1, 5);
    good(6, "0001 load 0001;", 1);
    bad(6, "00001 load 1;", 1, 0);
    CountedTokens x = fresh();
    Due.text(x, 0, "store 0007 0090;");
    x.go(1, 0);
    is("LINE", x.miss(0, 0), 7);
    is("v", x.miss(0, 2), 90);
  }

  @Says(in = "T4", value = "Blanks (32, 10) between.")
  static void t4_blanks() {
    good(0, "  load\n\n1 \n;\n", 1);
    good(0, "load1;again2{load1;}", 3);
    for (char sign : new char[] {0, 9, 11, 13, 31, 33, 127, 128, 160, 255}) {
      bad(0, "load 1;" + sign, 1, 7);
      bad(0, "load" + sign + "1;", 1, 4);
      bad(0, sign + "", 1, 0);
      bad(6, "tick 1;" + sign, 1, 7);
    }
  }

  // ---- FAULTS

  @Says(in = "T4", value = "FAULTS, the first by its place, at one place the least")
  static void t4_theFirstFault() {
    bad(0, "load 8 x", 2, 5);
    bad(0, "x load 8;", 1, 0);
    bad(0, "load 1; load 8; x", 2, 13);
    bad(0, "again 1{again 1{again 1{ again 0 {", 3, 25);
    bad(0, "again 0{again 1{again 1{again 1{", 2, 6);
    bad(0, "again 9{again 9{again 9{load 1;}}} x", 1, 35);
    bad(0, "again 9{again 9{again 9{load 1;}}} load 8;", 2, 40);
    // at one place: 1 ahead of 3, 1 ahead of 4, 2 ahead of 3
    bad(0, "again 1{again 1{again 1{load again", 1, 29);
    bad(0, "again 9{again 9{again 9{load 1;}}", 1, 33);
    bad(6, "tick 1;".repeat(24) + "6 load 1;", 2, 168);
  }

  @Says(in = "T4", value = "1 what can't stand there (the end: the text's length)")
  static void t4_theEnd() {
    bad(0, "load", 1, 4);
    bad(0, "load   ", 1, 7);
    bad(0, "load 1", 1, 6);
    bad(0, "load 1\n\n", 1, 8);
    bad(0, "store 1", 1, 7);
    bad(0, "again", 1, 5);
    bad(0, "again 2", 1, 7);
    bad(0, "again 2 {", 1, 9);
    bad(0, "again 2 { load 1; ", 1, 18);
    bad(6, "3", 1, 1);
    bad(6, "3 load", 1, 6);
    bad(6, "tick 5 ", 1, 7);
    bad(6, "go 5", 1, 4);
    // the TAPE is full
    bad(0, "load 1; ".repeat(49) + "load 1  ", 1, 400);
    good(0, "load 1; ".repeat(50), 50);
  }

  @Says(in = "T4", value = "2 (at the NUMBER) one beyond its bounds")
  static void t4_numberBeyondItsBounds() {
    bad(0, "load    8;", 2, 8);
    bad(0, "store 0 0;\nrest\n0;", 2, 16);
    bad(0, "again 10 {", 2, 6);
    bad(6, " 6 load 1;", 2, 1);
    bad(6, "go 1 3;", 2, 5);
  }

  @Says(in = "T4", value = "3 (at again) the fourth deep")
  static void t4_theFourthDeep() {
    bad(0, "again 1 { again 1 { again 1 {   again 1 { } } } }", 3, 32);
    bad(0, "again 1{again 1{again 1{load 1;}again 1{again 1{}}}}", 3, 40);
    bad(0, "again 1{again 1{again 1{again", 3, 24);
    bad(0, "again 1{again 1{again 1{again again", 3, 24);
  }

  @Says(in = "T4", value = "4 (at the text's end, if there is no other) more than 200 ACTS")
  static void t4_tooManyActs() {
    bad(0, "again 5{again 8{again 5{load 1;}}}load 1;", 4, 41);
    bad(0, "load 1;again 5{again 8{again 5{load 1;}}}", 4, 41);
    bad(0, "again 5{again 8{again 5{load 1;}}}load 1; \n ", 4, 44);
    bad(0, "again 9{again 9{again 9{load 1;load 1;}}}", 4, 41);
    bad(0, "again 9{again 9{again 9{" + "load 1;".repeat(53) + "}}}", 4, 398);
    bad(0, "again 3{" + "load 1;".repeat(55) + "}}", 1, 394);
    // what is inside again counts as often as it is done: 67 times 3 is 201
    bad(0, "again 3 { again 9 { load 1; load 1; load 1; load 1; load 1; load 1; load 1; } load 1; load 1; load 1; load 1; }", 4, 111);
    good(0, "again 2 { again 9 { again 9 { load 1; } load 1; } again 9 { load 1; } load 1; }", 200);
  }

  // ---- GO, CALM

  @Says(in = "T4", value = "CPU by CPU that has ACTS left (from the first on, when the text was told), no MISS, and does not REST: the next one is done")
  static void t4_whoseActIsDone() {
    CountedTokens x = fresh();
    own(x, 0, 0, 5);
    Due.text(x, 0, "load 0; load 0;");
    x.go(1, 0);
    is("one a ROUND", x.program(0, 1), 1);
    x.go(1, 0);
    is("the second", x.program(0, 1), 2);
    x.go(5, 0);
    is("none left", x.program(0, 1), 2);
    is("HITS", x.look(8), 2);
    Due.text(x, 0, "load 0;");
    is("from the first on", x.program(0, 1), 0);
    x.go(1, 0);
    is("the new one", x.program(0, 1), 1);
    is("HITS", x.look(8), 3);
    // as long as it has a MISS nothing is done
    x = fresh();
    own(x, 1, 7, 5);
    x.set(3, 2);
    Due.text(x, 0, "load 7; load 7;");
    x.go(4, 0);
    is("its MISS is on", x.miss(0, 0), 7);
    is("begun", x.program(0, 1), 1);
    // a MISS that was called, too
    x = fresh();
    Due.text(x, 0, "load 7;");
    x.load(0, 3);
    x.go(1, 1);
    is("its MISS is over behind it", x.look(9), 1);
    is("not begun", x.program(0, 1), 0);
    x.go(1, 1);
    is("begun", x.program(0, 1), 1);
    // CPU by CPU ahead of what is delivered
    x = fresh();
    x.set(3, 2);
    Due.text(x, 2, "load 2;");
    Due.text(x, 0, "load 0;");
    Due.text(x, 1, "load 1;");
    x.go(1, 0);
    Edges.traced(x, 122, 111, 100);
  }

  @Says(in = "T4", value = "rest N: it RESTS till TICK is N more than it is then; else as called")
  static void t4_rest() {
    for (int n = 1; n <= 9; n += 4) {
      CountedTokens x = fresh();
      own(x, 0, 0, 5);
      x.tick(3);
      Due.text(x, 0, "rest " + n + "; load 0;");
      is("never yet", x.program(0, 2), 0);
      x.go(1, 0);
      is("RESTS till", x.program(0, 2), 3 + n);
      is("rest is begun", x.program(0, 1), 1);
      if (n > 1) x.go(n - 1, 0);
      is("TICK", x.look(5), 3 + n);
      is("not yet", x.program(0, 1), 1);
      x.go(1, 0);
      is("then", x.program(0, 1), 2);
      is("RESTS till", x.program(0, 2), 3 + n);
    }
    // rest N twice; TICKS by whatever
    CountedTokens x = fresh();
    Due.text(x, 0, "again 2 { rest 9; }");
    x.go(1, 0);
    x.tick(8);
    x.go(1, 0);
    is("the second", x.program(0, 1), 2);
    is("RESTS till", x.program(0, 2), 18);
    // one that RESTS can be called
    is("load", x.load(0, 0), NONE);
  }

  @Says(in = "T4", value = "then up to three times, if there is a MESSAGE: one is delivered: ORDER 0 the first, 1 the last")
  static void t4_threeAreDelivered() {
    CountedTokens x = fresh(6, 8);
    x.go(1, 0);
    is("none", x.look(12), 0);
    is("TICK", x.look(5), 1);
    x.load(0, 0);
    come(x, 0, HOME, 1);
    come(x, HOME, 0, 3);
    x.image(true);
    x.go(1, 0);
    row(x, 14, 15);
    x.go(1, 0);
    row(x);
    is("two", x.look(12), 2 + 5);
    is("TICK", x.look(5), 3);
    x.image(false);
    x.go(1, 1);
    row(x, 11, 12);
    x.go(2, 1);
    row(x);
    // those that they cause, too
    x = fresh();
    x.set(3, 2);
    x.load(0, 0);
    is("ended in it", x.go(1, 0), 1);
    is("two", x.look(12), 2);
    x = fresh();
    x.load(0, 0);
    is("the last, and what it caused", x.go(1, 1), 1);
    row(x, 11);
  }

  @Says(in = "T4", value = "2 that of a DRAW of how many there are; then a TICK")
  static void t4_drawnOrder() {
    CountedTokens x = fresh();
    x.go(3, 2);
    is("no MESSAGE, no DRAW", x.look(14), 0);
    x.set(3, 2);
    x.load(0, 0);
    x.go(1, 2);
    int s = 1664525 * 1013904223 + 1013904223;
    is("two MESSAGES, two DRAWS", x.look(14), s);
    is("TICK", x.look(5), 4);
    x.load(1, 1);
    x.go(1, 0);
    x.load(2, 2);
    x.go(1, 1);
    is("no DRAWS by other ORDERS", x.look(14), s);
  }

  @Says(in = "T4", value = "(Of CPUS that there are.)")
  static void t4_whoIsNotThereDoesNothing() {
    CountedTokens x = fresh(2, 8);
    for (int k = 0; k < 6; k++) Due.text(x, k, "load 0; load 0;");
    x.go(60, 0);
    for (int k = 0; k < 6; k++) is("program(" + k + ", 1)", x.program(k, 1), k < 2 ? 2 : 0);
    x.evict(0, 0);
    x.evict(1, 0);
    quiet(x);
    x.set(0, 6);
    x.go(60, 0);
    for (int k = 0; k < 6; k++) is("program(" + k + ", 1)", x.program(k, 1), 2);
  }

  @Says(in = "T4", value = "CALM n ROUNDS: each: as long as there are MESSAGES (2000 in a ROUND at most) the first is delivered; then a TICK.")
  static void t4_calm() {
    CountedTokens x = fresh();
    is("none", x.calm(1), 0);
    is("TICK", x.look(5), 1);
    x.load(0, 0);
    is("those that they cause, too", x.calm(1), 4);
    is("none is left", x.look(6), 0);
    is("TICK", x.look(5), 2);
    // what a TICK asks comes in the next ROUND
    own(x, 0, 0, 5);
    x.set(3, 2);
    x.set(4, 1);
    x.load(1, 0);
    is("one", x.calm(1), 1);
    row(x, 10, 12, 16);
    is("four", x.calm(1), 4);
    is("over", x.look(15), 0);
    // many in a ROUND
    x = fresh(6, 12);
    x.set(4, 1);
    for (int c = 0; c < 6; c++) x.store(c, c % 2, c);
    x.tick(3);
    int many = x.look(6);
    int came = x.calm(1);
    is("all in one ROUND, and more", came > many, true);
    is("counted", x.look(12), came);
    is("all are over", x.look(9), 6);
  }

  // ---- THE PLAN

  @Says(in = "T4", value = "THE PLAN (text 6, empty at first) =")
  static void t4_emptyPlan() {
    CountedTokens x = fresh();
    is("lines", x.look(16), 0);
    is("run", x.look(17), 0);
    is("run(1)", x.run(1), 0);
    is("run", x.look(17), 0);
    good(6, "", 0);
    good(6, " \n", 0);
    Due.text(x, 6, "tick 1; tick 1;");
    x.run(1);
    is("an empty one", Due.text(x, 6, ""), 0);
    is("lines", x.look(16), 0);
    is("run", x.look(17), 0);
  }

  @Says(in = "T4", value = "{C load L | C store L V | C add L V | C evict L | deliver N | last N | tick N | calm N | go N O | policy P ;}")
  static void t4_linesOfThePlan() {
    for (String line : new String[] {"0 load 1", "0 store 1 2", "0 add 1 2", "0 evict 1", "deliver 1", "last 1", "tick 1", "calm 1", "go 1 0", "policy 1"}) {
      good(6, line + ";", 1);
      good(6, line + " ;" + line + ";", 2);
      bad(6, line, 1, line.length());
      bad(6, line + " 5;", 1, line.length() + 1);
      bad(6, line + ";;", 1, line.length() + 1);
      boolean named = line.charAt(0) == '0';
      if (named) bad(6, line.substring(2) + ";", 1, 0);
      else bad(6, "0 " + line + ";", 1, 2);
      int numbers = line.lastIndexOf(' ');
      bad(6, line.substring(0, numbers) + ";", 1, numbers);
    }
  }

  @Says(in = "T4", value = "C 0 .. 5, L, V as above")
  static void t4_cpuOfALine() {
    good(6, "0 load 0;", 1);
    good(6, "5 evict 7;", 1);
    bad(6, "6 load 0;", 2, 0);
    bad(6, "9999 load 0;", 2, 0);
    bad(6, "6 x", 2, 0);
  }

  private static void bounds(String before, int low, int high, String after) {
    good(6, before + low + after, 1);
    good(6, before + high + after, 1);
    if (low > 0) bad(6, before + (low - 1) + after, 2, before.length());
    bad(6, before + (high + 1) + after, 2, before.length());
    bad(6, before + "9999" + after, 2, before.length());
    bad(6, before + "10000" + after, 1, before.length());
  }

  @Says(in = "T4", value = "deliver, last 1 .. 50")
  static void t4_boundsOfDeliver() {
    bounds("deliver ", 1, 50, ";");
    bounds("last ", 1, 50, ";");
  }

  @Says(in = "T4", value = "tick 1 .. 99, calm, go 1 .. 60, O 0 .. 2, P 0 .. 3")
  static void t4_boundsOfThePlan() {
    bounds("tick ", 1, 99, ";");
    bounds("calm ", 1, 60, ";");
    bounds("go ", 1, 60, " 0;");
    bounds("go 1 ", 0, 2, ";");
    bounds("policy ", 0, 3, ";");
  }

  @Says(in = "T4", value = "(so many of the first, of the last MESSAGES, one behind the other; fewer, if there are fewer)")
  static void t4_deliverAndLast() {
    CountedTokens x = fresh(6, 8);
    x.load(0, 0);
    come(x, 0, HOME, 1);
    come(x, HOME, 0, 3);
    Due.text(x, 6, "deliver 1; last 1; deliver 2; last 50; deliver 1;");
    is("run", x.run(1), 1);
    row(x, 12, 13, 14, 15);
    is("run", x.run(1), 1);
    row(x, 12, 13, 14);
    is("run", x.run(1), 1);
    row(x, 14);
    is("fewer", x.run(1), 1);
    row(x);
    is("none", x.run(1), 0);
    // 50 of 60
    x = fresh(6, 8);
    own(x, 5, 0, 1);
    for (int l = 1; l < 6; l++) own(x, 5, l, 1);
    x.set(4, 1);
    x.set(2, 8);
    Due.text(x, 6, "deliver 50; last 50; last 50;");
    for (int c = 0; c < 5; c++) x.load(c, 7);
    int before = x.look(12);
    is("30 MESSAGES", x.look(6), 30);
    x.tick(1);
    is("60 MESSAGES", x.look(6), 60);
    is("run", x.run(1), 1);
    is("50", x.look(12), before + 50);
    is("run", x.run(1), 1);
    is("those that are there", x.look(6), 0);
    is("refused", x.run(1), 0);
  }

  @Says(in = "T4", value = "up to 24 lines")
  static void t4_24Lines() {
    good(6, "tick 1;".repeat(23), 23);
    good(6, "tick 1;".repeat(24), 24);
    bad(6, "tick 1;".repeat(25), 3, 168);
    CountedTokens x = fresh();
    Due.text(x, 6, "tick 1;".repeat(23) + "tick 9;");
    is("run(24)", x.run(24), 24);
    is("TICK", x.look(5), 32);
    is("run", x.look(17), 24);
  }

  @Says(in = "T4", value = "TOKENS as above (its own KEYWORDS alone)")
  static void t4_keywordsOfThePlan() {
    bad(6, "0 rest 1;", 1, 2);
    bad(6, "rest 1;", 1, 0);
    bad(6, "again 2 { tick 1; }", 1, 0);
    bad(6, "0 again 2;", 1, 2);
    for (String word : new String[] {"evict", "deliver", "last", "tick", "calm", "go", "policy"}) bad(0, word + " 1;", 1, 0);
  }

  @Says(in = "T4", value = "3 (at its first token, if a line can begin so) the 25th line")
  static void t4_the25thLine() {
    String full = "tick 1;".repeat(24);
    for (String line : new String[] {"0 load 1;", "5", "0005", "deliver", "last", "tick", "calm 61;", "go x", "policy 9;", "3 x"}) {
      bad(6, full + line, 3, 168);
      bad(6, full + " \n" + line, 3, 170);
    }
    // a line can't begin so
    for (String line : new String[] {"load 1;", "evict 1;", "store", "rest", "again", "x", ";", "{", "}", "#", "00000"}) bad(6, full + line, 1, 168);
    bad(6, full + "6 load 1;", 2, 168);
    bad(6, full + "9999", 2, 168);
    // a FAULT ahead of it
    bad(6, "tick 1;".repeat(23) + "tick 0; tick 1;", 2, 166);
    good(6, full + " \n ", 24);
  }

  @Says(in = "T4", value = "one by one as if called (refused: what can't be; deliver, last of none, too; a MISS is not)")
  static void t4_refusedLines() {
    CountedTokens x = fresh();
    Due.text(x, 6, "deliver 1; last 1; 0 evict 0; 3 load 0; 3 store 0 1; 3 add 0 1; 3 evict 0; 0 load 0; 0 load 1; 0 store 1 1; 0 add 1 1; policy 0; 0 evict 0;");
    int[] due = {0, 0, 0, 0, 0, 0, 0, 1, 0, 0, 0, 1, 0};
    for (int i = 0; i < due.length; i++) {
      is("line " + i, x.run(1), due[i]);
      is("run", x.look(17), i + 1);
    }
    is("one MISS", x.look(18), 1);
    // a HIT is not refused
    quiet(x);
    own(x, 0, 0, 5);
    Due.text(x, 6, "0 load 0; 0 store 0 1; 0 add 0 1; 0 evict 0; deliver 1;");
    is("run(5)", x.run(5), 5);
    // TICK would be above 9999
    for (String line : new String[] {"tick 10;", "calm 10;", "go 10 0;"}) {
      CountedTokens y = Edges.at(9990);
      Due.text(y, 6, line + line.replace("10", "9"));
      is("above 9999: " + line, y.run(1), 0);
      is("TICK", y.look(5), 9990);
      is("9999 is not above", y.run(1), 1);
      is("TICK", y.look(5), 9999);
    }
  }

  @Says(in = "T4", value = "it is at its end: fewer")
  static void t4_theEndOfThePlan() {
    CountedTokens x = fresh();
    Due.text(x, 6, "tick 1; deliver 1; tick 1;");
    is("two of three", x.run(2), 1);
    is("run", x.look(17), 2);
    is("one is left", x.run(24), 1);
    is("run", x.look(17), 3);
    is("none is left", x.run(24), 0);
    is("run", x.look(17), 3);
    is("TICK", x.look(5), 2);
  }

  // ---- THE TRACE

  @Says(in = "T4", value = "THE TRACE (the latest 100 lines)")
  static void t4_trace100() {
    CountedTokens x = fresh();
    is("none", x.trace(0, 0), NONE);
    own(x, 0, 0, 5);
    for (int i = 3; i <= 100; i++) {
      x.tick(1);
      x.load(0, 0);
    }
    is("100 lines", x.look(18), 100);
    is("the first is kept", x.trace(99, 1), 1);
    x.load(0, 0);
    is("101 lines", x.look(18), 101);
    is("the first is not", x.trace(99, 1), 2);
    is("100 alone", x.trace(100, 1), NONE);
    is("the latest", x.trace(0, 0), 98);
  }

  @Says(in = "T4", value = "0 a HIT, 1 a MISS began, 2 one ENDED, 3 one ASKED FOR GOOD, 4 EVICTED")
  static void t4_whatIsTraced() {
    CountedTokens x = fresh();
    x.set(4, 1);
    x.store(2, 7, 5);
    Edges.traced(x, 127);
    x.tick(1);
    Edges.traced(x, 627, 127);
    x.tick(2);
    Edges.traced(x, 327, 627, 627, 127);
    quiet(x);
    Edges.traced(x, 227, 327);
    x.load(2, 7);
    x.store(2, 7, 1);
    x.add(2, 7, 1);
    Edges.traced(x, 27, 27, 27, 227);
    x.evict(2, 7);
    Edges.traced(x, 427, 27);
    is("TICK", x.trace(0, 0), 3);
    is("TICK", x.trace(8, 0), 0);
    is("lines", x.look(18), 9);
  }

  @Says(in = "T4", value = "5 TOKENS went on to HOME for want of ROOM")
  static void t4_goingOnIsTraced() {
    CountedTokens x = fresh();
    x.set(2, 1);
    x.load(0, 5);
    x.tick(6);
    Edges.allOf(x, 1);
    come(x, HOME, 0, 3);
    x.evict(0, 5);
    x.load(0, 6);
    x.deliver(x.look(6) - 1);
    x.deliver(x.look(6) - 1);
    come(x, HOME, 0, 3);
    Edges.traced(x, 505, 206, 106, 405, 205, 605, 105);
  }

  @Says(in = "T4", value = "6 one ASKED anew by a TICK, ISSUED more or not")
  static void t4_askedAnewIsTraced() {
    // ISSUED stays 3 as long as its recall is on its way
    CountedTokens x = fresh();
    own(x, 1, 1, 5);
    x.set(3, 2);
    x.store(0, 0, 5);
    Edges.forGood(x);
    come(x, 0, HOME, 2);
    come(x, HOME, 0, 3);
    x.load(0, 1);
    x.tick(4);
    is("ISSUED", x.miss(0, 3), 3);
    Edges.traced(x, 601, 601, 601, 601, 101);
  }

  @Says(in = "T4", value = "as they come (4 ahead of the 2 for which it was)")
  static void t4_evictedIsTracedFirst() {
    CountedTokens x = fresh();
    x.set(2, 1);
    Edges.read(x, 0, 0);
    Edges.read(x, 0, 1);
    Edges.traced(x, 201, 400, 101, 200, 100);
  }

  public static void main(String[] args) throws Exception { Edges.run(TextEdgesTest.class); }
}
