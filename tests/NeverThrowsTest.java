import java.lang.reflect.InvocationTargetException;
import java.lang.reflect.Method;
import java.util.ArrayList;
import java.util.Comparator;
import java.util.List;
import java.util.Random;

/**
 * LANGUAGE.md, rule 7: no call ever throws, for any arguments in any state. All methods of the face
 * with arguments of all sorts, on objects that have much on their way, and longer than they are used.
 */
public final class NeverThrowsTest {
  private static final int[] EDGES = {
    Integer.MIN_VALUE, Integer.MIN_VALUE + 1, Integer.MAX_VALUE, Integer.MAX_VALUE - 1, -2, -1, 0, 1, 2, 3, 5, 6, 7, 8, 9, 18, 19, 20, 24, 25,
    59, 60, 61, 99, 100, 199, 200, 255, 256, 399, 400, 401, 2000, 9999, 10000, 1 << 16, 1 << 24, 1 << 28, 0x20202020, 0x6c6f6164,
  };
  private static final String[] TEXTS = {
    "load 1; store 2 5; add 3 9999; rest 9;", "again 9 { again 9 { again 9 { load 1; } } }", "again 9 { again 5 { add 0 1; store 1 1; } rest 1; }", "again 3 {", "",
    "0 load 1; 1 store 1 5; 5 add 7 1; 2 evict 1; deliver 50; last 50; tick 99; calm 60; go 60 2; policy 3;", "go 60 1; go 60 2; last 50; calm 60; tick 99;", "0 load",
  };

  private static Object argument(Random r, Class<?> type) {
    if (type == boolean.class) return r.nextBoolean();
    int k = r.nextInt(10);
    if (k < 7) return r.nextInt(9);
    return k < 9 ? EDGES[r.nextInt(EDGES.length)] : r.nextInt();
  }

  private static void live(List<Method> face, long seed, int calls) throws Exception {
    Random r = new Random(seed);
    CountedTokens x = new CountedTokens();
    x.set(0, 2 + r.nextInt(5));
    for (int i = 0; i < calls; i++) {
      if (r.nextInt(20) == 0) Due.text(x, r.nextInt(8), TEXTS[r.nextInt(TEXTS.length)]);
      Method m = face.get(r.nextInt(face.size()));
      Class<?>[] types = m.getParameterTypes();
      Object[] with = new Object[types.length];
      for (int a = 0; a < with.length; a++) with[a] = argument(r, types[a]);
      try {
        m.invoke(x, with);
        Due.told++;
      } catch (InvocationTargetException thrown) {
        Due.wrong++;
        System.out.println("seed " + seed + ", call " + i + ": " + m.getName() + java.util.Arrays.toString(with) + " threw " + thrown.getCause());
        return;
      }
    }
  }

  public static void main(String[] args) throws Exception {
    List<Method> face = new ArrayList<>(List.of(CountedTokens.class.getMethods()));
    face.removeIf(m -> m.getDeclaringClass() != CountedTokens.class);
    face.sort(Comparator.comparing(Method::getName));
    int from = args.length > 0 ? Integer.parseInt(args[0]) : 1;
    int lives = args.length > 1 ? Integer.parseInt(args[1]) : 200;
    for (int seed = from; seed < from + lives; seed++) live(face, seed, seed % 20 == 0 ? 20_000 : 512);
    Due.close("NeverThrowsTest");
  }
}
