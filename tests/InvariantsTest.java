import java.util.Arrays;
import java.util.Random;

/**
 * What must be so after every call, whatever the calls were: the TOKENS are all there, who can read
 * a LINE reads what was written last, the counts add up, THE IMAGE brings all back, SOON comes true.
 * It needs no Model, so that a wrong reading that the Model shares can be seen here. (The class
 * doesn't count its calls: more than 512 are asked of one object.)
 */
public final class InvariantsTest {
  private static final int HOME = 6;
  private static final int NONE = CountedTokens.NONE;

  // How often it came to what the lives are for: else they would show nothing.
  private static int askedForGood = 0, evicted = 0, wentOn = 0, dropped = 0, marked = 0, cameBack = 0;

  private final CountedTokens x = new CountedTokens();
  private final Random random;
  private final int[] written = new int[8];
  private String last = "";
  private int mostRoom = 4;
  // A KIND that mostly has to wait in this life; 0: none has to.
  private int late = 0;

  private InvariantsTest(long seed) { random = new Random(seed); }

  private void must(int promise, String what, int got, int want) {
    if (got == want) Due.told++;
    else Due.due(promise, what + " after " + last, got, want);
  }

  private int r(int n) { return random.nextInt(n); }

  private int nodes() { return x.look(0) + 1; }

  private int node(int i) { return i < x.look(0) ? i : HOME; }

  // ---- what must be so

  private void tokensAreAllThere(int line) {
    int count = 0, owners = 0, with = 0, onWay = 0, ownerAt = NONE, worth = NONE;
    for (int i = 0; i < nodes(); i++) {
      int k = node(i);
      count += x.node(k, line, 0);
      owners += x.node(k, line, 1);
      with += x.node(k, line, 0) > 0 ? 1 : 0;
      if (x.node(k, line, 1) == 1) {
        ownerAt = k;
        worth = x.node(k, line, 3);
        must(17, "where OWNER is, VALID", x.node(k, line, 2), 1);
      }
      if (x.node(k, line, 0) == 0) must(17, "without TOKENS nothing", x.node(k, line, 1) + x.node(k, line, 2), 0);
      must(17, "DATA, if VALID", x.node(k, line, 3) == NONE ? 0 : 1, x.node(k, line, 2));
    }
    for (int i = 0; i < x.look(6); i++) {
      if (x.message(i, 2) != 3 || x.message(i, 3) != line) continue;
      onWay += x.message(i, 4);
      owners += x.message(i, 5);
      must(20, "TOKENS that come are one at least", x.message(i, 4) > 0 ? 1 : 0, 1);
      if (x.message(i, 5) == 1) worth = x.message(i, 6);
    }
    must(1, "TOKENS of line " + line, count + onWay, x.look(1));
    must(1, "OWNER tokens of line " + line, owners, 1);
    must(25, "where(0)", x.where(line, 0), ownerAt);
    must(25, "where(3)", x.where(line, 3), with);
    must(25, "where(4)", x.where(line, 4), onWay);
    must(31, "worth", x.worth(line), worth);
    must(31, "what was written last", worth, written[line]);
  }

  private void allHoldTheSame(int line) {
    for (int i = 0; i < nodes(); i++) {
      if (x.node(node(i), line, 2) == 1) must(17, "whoever is VALID has what was written last", x.node(node(i), line, 3), written[line]);
    }
    for (int i = 0; i < x.look(6); i++) {
      if (x.message(i, 2) == 3 && x.message(i, 3) == line && x.message(i, 6) != NONE) {
        must(20, "so has what is on its way", x.message(i, 6), written[line]);
      }
    }
  }

  private void canIsAsWhere(int line) {
    int read = 0, write = NONE, missing = 0, turns = 0;
    for (int c = 0; c < x.look(0); c++) {
      boolean valid = x.node(c, line, 2) == 1;
      int can = valid ? x.node(c, line, 0) == x.look(1) ? 2 : 1 : 0;
      must(30, "can", x.can(c, line), can);
      read |= can > 0 ? 1 << c : 0;
      write = can == 2 ? c : write;
      missing |= x.miss(c, 0) == line ? 1 << c : 0;
    }
    for (int i = 0; i < nodes(); i++) {
      int turn = NONE;
      for (int c = x.look(0) - 1; c >= 0; c--) if (x.table(node(i), c, 1) == 1 && x.table(node(i), c, 2) == line) turn = c;
      must(17, "THE TURN", x.node(node(i), line, 4), turn);
      turns += turn == NONE ? 0 : 1;
    }
    must(25, "where(1)", x.where(line, 1), read);
    must(25, "where(2)", x.where(line, 2), write);
    must(25, "where(5)", x.where(line, 5), missing);
    must(25, "where(6)", x.where(line, 6), turns);
  }

  private void useIsAnOrder(int cpu) {
    int many = 0, places = 0;
    for (int l = 0; l < 8; l++) {
      int place = x.node(cpu, l, 6);
      must(17, "a place by use, if there are TOKENS", place == NONE ? 0 : 1, x.node(cpu, l, 0) > 0 ? 1 : 0);
      if (place != NONE) {
        many++;
        places |= 1 << place;
      }
    }
    must(17, "the places by use", places, (1 << many) - 1);
    must(3, "no more LINES than ROOM", many <= mostRoom ? 1 : 0, 1);
  }

  private void tablesAreInStep(int cpu) {
    boolean good = x.miss(cpu, 5) == 1;
    must(19, "its own entry is ACTIVE with a MISS for good", x.table(cpu, cpu, 1), good ? 1 : 0);
    must(19, "its own entry is never MARKED", x.table(cpu, cpu, 4), 0);
    must(26, "its own SEQ is how often it asked for good", x.table(cpu, cpu, 0), x.cost(cpu, 4));
    if (good) {
      must(19, "its own entry has the LINE of the MISS", x.table(cpu, cpu, 2), x.miss(cpu, 0));
      must(19, "its own entry has what the MISS is for", x.table(cpu, cpu, 3), x.miss(cpu, 1) == 1 ? 1 : 2);
      must(18, "who asks for good has asked three times", x.miss(cpu, 3), 3);
    }
    for (int c = 0; c < x.look(0); c++) marked += x.table(cpu, c, 4);
    boolean told = true;
    for (int i = 0; i < x.look(6); i++) told &= x.message(i, 0) != cpu || x.message(i, 2) < 4;
    for (int i = 0; i < nodes(); i++) {
      int k = node(i);
      must(19, "nobody knows more of it than itself", x.table(k, cpu, 0) <= x.table(cpu, cpu, 0) ? 1 : 0, 1);
      // who was not there when it asked knows an older SEQ, and nothing that is ACTIVE
      if (told) must(19, "all that was told, ACTIVE as its own", x.table(k, cpu, 1), x.table(cpu, cpu, 1));
    }
  }

  private void countsAddUp() {
    int[] sums = new int[5];
    int missing = 0, sent = 0, asking = 0, tokens = 0;
    for (int c = 0; c < 6; c++) for (int w = 0; w < 5; w++) sums[w] += x.cost(c, w);
    for (int c = 0; c < x.look(0); c++) missing += x.miss(c, 0) == NONE ? 0 : 1;
    for (int a = 0; a < 7; a++) for (int b = 0; b < 7; b++) sent += x.flow(a, b, 0);
    for (int i = 0; i < x.look(6); i++) {
      asking += x.message(i, 2) < 3 ? 1 : 0;
      tokens += x.message(i, 4);
      must(20, "from one to another", x.message(i, 0) == x.message(i, 1) ? 1 : 0, 0);
    }
    must(33, "HITS", x.look(8), sums[0]);
    must(33, "MISSES ENDED", x.look(9), sums[1]);
    must(33, "asked for good", x.look(10), sums[4]);
    must(33, "CPUS with a MISS", x.look(15), missing);
    must(33, "TOKENS on their way", x.look(13), tokens);
    must(29, "sent is delivered or on its way", sent, x.look(12) + x.look(6));
    must(33, "60 that ask at most", asking <= 60 ? 1 : 0, 1);
    for (int i = 1; i < Math.min(100, x.look(18)); i++) must(28, "THE TRACE goes back in time", x.trace(i, 0) <= x.trace(i - 1, 0) ? 1 : 0, 1);
  }

  private void lookAtAll() {
    for (int l = 0; l < 8; l++) {
      tokensAreAllThere(l);
      allHoldTheSame(l);
      canIsAsWhere(l);
    }
    for (int c = 0; c < x.look(0); c++) {
      useIsAnOrder(c);
      tablesAreInStep(c);
    }
    countsAddUp();
  }

  // ---- what is thought comes true

  /** All but the TAPE and fault(), as far as it can be asked. */
  private int[] all() {
    int[] a = new int[6000];
    int at = 0;
    for (int w = 0; w < 19; w++) a[at++] = x.look(w);
    for (int k = 0; k < 7; k++) {
      for (int l = 0; l < 8; l++) {
        for (int w = 0; w < 7; w++) a[at++] = x.node(k, l, w);
        a[at++] = x.group(k, l);
      }
      for (int c = 0; c < 6; c++) for (int w = 0; w < 5; w++) a[at++] = x.table(k, c, w);
      for (int b = 0; b < 7; b++) for (int w = 0; w < 3; w++) a[at++] = x.flow(k, b, w);
      for (int w = 0; w < 6; w++) a[at++] = x.miss(k, w) * 31 + x.cost(k, w) * 7 + x.program(k, w);
      for (int i = -1; i < 60; i++) a[at++] = x.seen(k, i);
    }
    for (int i = 0; i < x.look(6); i++) for (int w = 0; w < 9; w++) a[at++] = x.message(i, w);
    for (int i = 0; i < 100; i++) for (int w = 0; w < 4; w++) a[at++] = x.trace(i, w);
    return a;
  }

  private void soonComesTrue(int cpu) {
    if (x.look(5) > 9900) return;
    int rounds = x.soon(cpu);
    must(23, "0 without a MISS alone", rounds == 0 ? 1 : 0, x.miss(cpu, 0) == NONE ? 1 : 0);
    if (rounds == 0) return;
    int[] before = all();
    x.image(true);
    if (rounds == NONE) {
      x.calm(60);
      must(23, "still a MISS", x.miss(cpu, 0) == NONE ? 0 : 1, 1);
    } else {
      if (rounds > 1) x.calm(rounds - 1);
      must(23, "still a MISS", x.miss(cpu, 0) == NONE ? 0 : 1, 1);
      x.calm(1);
      must(23, "no MISS any more", x.miss(cpu, 0), NONE);
    }
    must(32, "gone back", x.image(false) ? 1 : 0, 1);
    must(32, "all as it was", Arrays.equals(before, all()) ? 1 : 0, 1);
    // three askings, the asking for good of each one who comes first, and some rounds of waiting
    if (x.look(4) <= 3) must(23, "a MISS ends by and by", rounds == NONE ? 0 : 1, 1);
  }

  /** By whatever order what is on its way comes, THE WALK knows whether MISSES can be left over. */
  private void walkComesTrue() {
    int[] before = all();
    int states = x.walk(0);
    must(24, "the walk changes nothing", Arrays.equals(before, all()) ? 1 : 0, 1);
    if (states == NONE) return;
    int fewest = x.walk(3);
    cameBack += x.walk(4);
    x.image(true);
    int came = 0;
    for (; came < 400 && x.look(6) > 0; came++) {
      x.deliver(r(x.look(6)));
      must(24, "24 at most", x.look(6) <= 24 ? 1 : 0, 1);
      int then = x.walk(0);
      must(24, "what can come of it is no more than what could", then != NONE && then <= states ? 1 : 0, 1);
      // an object may think as often as it likes, but this takes its time
      if (came > 12) break;
    }
    if (x.look(6) == 0) {
      must(24, "as few at least", came >= fewest ? 1 : 0, 1);
      must(24, "one without MESSAGES at least", before[6] == 0 || x.walk(1) == 1 ? 1 : 0, 1);
    }
    boolean missing = x.look(6) == 0 && x.look(15) > 0;
    x.image(false);
    if (missing) must(24, "a MISS could be left", x.walk(2) > 0 ? 1 : 0, 1);
    must(24, "some without MESSAGES have a MISS", x.walk(2) <= x.walk(1) && x.walk(1) <= states ? 1 : 0, 1);
  }

  // ---- calls

  /** A STORE or an ADD is done only where all TOKENS are: what a LINE holds can be followed. */
  private void follow(int[] misses, int[] ended) {
    for (int c = 0; c < x.look(0); c++) {
      boolean done = x.cost(c, 1) > ended[c];
      int line = misses[3 * c];
      if (!done || line == NONE) continue;
      if (misses[3 * c + 1] == 2) written[line] = misses[3 * c + 2];
      if (misses[3 * c + 1] == 3) written[line] = (written[line] + misses[3 * c + 2]) % 10000;
    }
  }

  private void deliver(int k) {
    int[] misses = new int[18];
    int[] ended = new int[6];
    for (int c = 0; c < 6; c++) {
      for (int w = 0; w < 3; w++) misses[3 * c + w] = x.miss(c, w);
      ended[c] = x.cost(c, 1);
    }
    int before = x.look(9);
    x.deliver(k);
    must(8, "one delivery ends one MISS at most", x.look(9) - before <= 1 ? 1 : 0, 1);
    follow(misses, ended);
  }

  private void begin(int cpu, int line, int what) {
    int v = r(4) == 0 ? 9990 + r(10) : r(50);
    int can = x.can(cpu, line);
    boolean free = cpu < x.look(0) && x.miss(cpu, 0) == NONE;
    int seen = x.seen(cpu, NONE);
    last = "what " + what + " of " + cpu + " on " + line;
    if (what == 1) {
      must(4, "load", x.load(cpu, line), !free ? NONE - 1 : can > 0 ? written[line] : NONE);
    } else {
      int got = what == 2 ? x.store(cpu, line, v) : x.add(cpu, line, v);
      must(what + 3, "store, add", got, !free ? NONE : can == 2 ? 1 : 0);
      if (got == 1 && what == 3) must(21, "ahead of an ADD", seen == 60 ? written[line] : x.seen(cpu, seen), written[line]);
      if (got == 1) written[line] = what == 2 ? v : (written[line] + v) % 10000;
    }
  }

  private void step(int lines, int tempo) {
    int k = r(20 + tempo);
    int cpu = r(x.look(0) + (r(10) == 0 ? 1 : 0));
    int line = r(lines);
    if (k < 3) begin(cpu, line, 1);
    else if (k < 6) begin(cpu, line, 2);
    else if (k < 8) begin(cpu, line, 3);
    else if (k == 8) {
      last = "evict";
      boolean due = cpu < x.look(0) && x.node(cpu, line, 0) > 0 && x.miss(cpu, 0) != line;
      must(7, "evict", x.evict(cpu, line) ? 1 : 0, due ? 1 : 0);
    } else if (k < 11) {
      last = "tick";
      int at = x.look(5);
      int n = 1 + r(3);
      must(9, "tick", x.tick(n), at + n);
    } else if (k == 11) {
      last = "set";
      int room = 1 + r(8);
      if (r(6) == 0 && x.set(2, room)) mostRoom = Math.max(mostRoom, room);
      x.set(3, r(4));
    } else if (k == 12 && r(4) == 0) {
      last = "set";
      x.set(0, 2 + r(5));
      x.set(1, 2 + r(11));
    } else if (x.look(6) > 0) {
      last = "deliver";
      int at = r(3) == 0 ? 0 : r(3) == 0 ? x.look(6) - 1 : r(x.look(6));
      for (int i = 0; i < 5 && x.message(at, 2) == late; i++) at = r(x.look(6));
      deliver(at);
    }
  }

  private void live() {
    x.set(4, r(2) == 0 ? 1 : 1 + r(r(2) == 0 ? 3 : 20));
    x.set(0, 2 + r(5));
    x.set(1, 2 + r(11));
    mostRoom = 1 + r(8);
    x.set(2, mostRoom);
    late = r(2) == 0 ? 0 : 1 + r(5);
    int lines = r(2) == 0 ? 1 : 1 + r(8);
    int tempo = r(40);
    for (int i = 0; i < 150 && Due.wrong == 0; i++) {
      step(lines, tempo);
      lookAtAll();
      if (i % 10 == 5) for (int c = 0; c < x.look(0); c++) soonComesTrue(c);
      if (i % 15 == 3) walkComesTrue();
    }
    askedForGood += x.look(10);
    evicted += x.look(11);
    dropped += x.look(7);
    for (int i = 0; i < 100; i++) wentOn += x.trace(i, 1) == 5 ? 1 : 0;
  }

  private static void cameUp(String what, int often) {
    System.out.println(what + ": " + often);
    Due.due(0, what + " came up", often > 0, true);
  }

  public static void main(String[] args) {
    int from = args.length > 0 ? Integer.parseInt(args[0]) : 1;
    int lives = args.length > 1 ? Integer.parseInt(args[1]) : 600;
    for (int seed = from; seed < from + lives && Due.wrong == 0; seed++) {
      new InvariantsTest(seed).live();
      if (Due.wrong > 0) System.out.println("seed " + seed);
    }
    cameUp("asked for good", askedForGood);
    cameUp("evicted", evicted);
    cameUp("went on to HOME", wentOn);
    cameUp("dropped", dropped);
    cameUp("marked", marked);
    cameUp("one could come back", cameBack);
    Due.close("InvariantsTest");
  }
}
