import java.util.Random;

/**
 * THE WALK and SOON after each step of short lives in which few LINES are fought for and recalls come
 * late, so that TOKENS go to and fro; against the Model.
 */
public final class WalkTest {
  private static void compare(CountedTokens x, Model y, String how, int[] met) {
    int[] due = y.walks();
    for (int w = 0; w < 5; w++) Due.due(24, "walk(" + w + ") after " + how, x.walk(w), due[w]);
    if (x.walk(4) == 1) met[0]++;
    if (x.walk(0) > 50) met[1]++;
    if (x.walk(2) > 0 && x.walk(2) < x.walk(1)) met[2]++;
    for (int c = 0; c < 4; c++) Due.due(23, "soon(" + c + ") after " + how, x.soon(c), y.soon(c));
  }

  private static void set(CountedTokens x, Model y, int what, int v) { Due.due(3, "set", x.set(what, v), y.set(what, v)); }

  private static void live(long seed, int[] met) {
    Random r = new Random(seed);
    CountedTokens x = new CountedTokens();
    Model y = new Model();
    int n = 2 + r.nextInt(2);
    set(x, y, 0, n);
    set(x, y, 1, n + r.nextInt(4));
    set(x, y, 2, 1 + r.nextInt(2));
    set(x, y, 3, 1 + r.nextInt(2));
    set(x, y, 4, 1);
    int lines = 1 + r.nextInt(3);
    if (r.nextInt(4) > 0) fight(x, y, n, r);
    for (int i = 0; i < 20; i++) {
      int c = r.nextInt(n);
      int l = r.nextInt(lines);
      int k = r.nextInt(12);
      if (k == 0) Due.due(4, "load", x.load(c, l), y.load(c, l));
      else if (k < 3) Due.due(5, "store", x.store(c, l, i), y.store(c, l, i));
      else if (k == 3) Due.due(6, "add", x.add(c, l, i), y.add(c, l, i));
      else if (k == 4) Due.due(7, "evict", x.evict(c, l), y.evict(c, l));
      else if (k == 5) Due.due(9, "tick", x.tick(1), y.tick(1));
      else if (k == 6) Due.due(9, "tick", x.tick(2), y.tick(2));
      else if (k == 7) set(x, y, 2, 1 + r.nextInt(3));
      else {
        // the first that is no recall, mostly
        int at = r.nextInt(1 + x.look(6));
        for (int j = x.look(6) - 1; j >= 0 && k < 11; j--) if (x.message(j, 2) != 5) at = j;
        Due.due(8, "deliver", x.deliver(at), y.deliver(at));
      }
      compare(x, y, "call " + i + " of seed " + seed, met);
    }
  }

  /** Two ask for good for a LINE and are answered; what recalls that stays on its way. */
  private static void fight(CountedTokens x, Model y, int n, Random r) {
    for (int c = 0; c < 2; c++) {
      if (r.nextInt(3) == 0) Due.due(4, "load", x.load(c, 0), y.load(c, 0));
      else Due.due(5, "store", x.store(c, 0, c), y.store(c, 0, c));
    }
    Due.due(9, "tick", x.tick(3), y.tick(3));
    for (int i = 0; i < 200 && x.look(15) > r.nextInt(2); i++) {
      int at = 0;
      while (at < x.look(6) && x.message(at, 2) == 5) at++;
      if (r.nextInt(3) > 0) for (int j = 0; j < x.look(6); j++) if (x.message(j, 2) != 5 && x.message(j, 2) != 3) at = j;
      Due.due(8, "deliver", x.deliver(at), y.deliver(at));
    }
  }

  public static void main(String[] args) {
    int[] met = new int[3];
    for (long seed = 1; seed <= 150 && Due.wrong == 0; seed++) live(seed, met);
    Due.due(24, "one could come back now and then", met[0] > 20, true);
    Due.due(24, "many STATES now and then", met[1] > 20, true);
    Due.due(24, "in some a MISS now and then", met[2] > 3, true);
    System.out.println("came back " + met[0] + ", many " + met[1] + ", in some a MISS " + met[2]);
    Due.close("WalkTest");
  }
}
