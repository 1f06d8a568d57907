import com.sun.management.ThreadMXBean;
import java.lang.management.ManagementFactory;

/**
 * All calls of a run live in one room: what 512 calls of the dearest kinds make must be what is
 * made once, not again with each call.
 */
public final class RoomTest {
  private static final ThreadMXBean THREADS = (ThreadMXBean) ManagementFactory.getThreadMXBean();

  private static long bytes() { return THREADS.getThreadAllocatedBytes(Thread.currentThread().getId()); }

  /** "again 9{again 9{add 1 1;}} " and so on, as numbers. */
  private static void text(CountedTokens x, int k) {
    x.feed(0x61676169, 0x6e20397b, 0x61676169, 0x6e20397b, 0x61646420);
    x.feed(0x3120313b, 0x7d7d2020, 0x20202020, 0x20202020, 0x20202020);
    x.text(k);
  }

  private static int life(int kind) {
    CountedTokens x = new CountedTokens();
    int sum = 0;
    x.load(0, 0);
    x.store(1, 0, 5);
    for (int i = 0; i < 500; i++) {
      switch (kind) {
        case 0: sum += x.walk(i % 5); x.set(2, 1 + i % 8); break;
        case 1: sum += x.soon(i % 3); break;
        case 2: sum += x.image(i % 2 == 0) ? 1 : 0; break;
        case 3: text(x, i % 7); break;
        case 4: sum += x.go(1 + i % 16, 2) + x.walk(0) + x.soon(1); break;
        default: sum += x.load(i % 3, i % 8) + x.calm(1) + x.tick(2) + x.run(5) + x.deliver(0); break;
      }
    }
    return sum;
  }

  public static void main(String[] args) {
    int wrong = 0;
    for (int kind = 0; kind < 6; kind++) {
      life(kind);
      long before = bytes();
      life(kind);
      long made = bytes() - before;
      long most = kind == 0 || kind == 4 ? 260_000 : 40_000;
      if (made > most) {
        wrong++;
        System.out.println("kind " + kind + ": " + made + " bytes, at most " + most);
      }
    }
    System.out.println("RoomTest: " + wrong + " wrong");
    if (wrong != 0) System.exit(1);
  }
}
