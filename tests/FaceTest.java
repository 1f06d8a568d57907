import java.lang.reflect.Constructor;
import java.lang.reflect.Field;
import java.lang.reflect.Method;
import java.lang.reflect.Modifier;
import java.nio.file.Files;
import java.nio.file.Path;
import java.util.Arrays;
import java.util.Set;
import java.util.TreeSet;
import java.util.regex.Matcher;
import java.util.regex.Pattern;

/** The class has the document's face and nothing else to be seen, and its text keeps to LANGUAGE.md. */
public final class FaceTest {
  private static final String[] FACE = {
    "int state(int)", "boolean set(int,int)", "int load(int,int)", "int store(int,int,int)", "int add(int,int,int)",
    "boolean evict(int,int)", "int deliver(int)", "int tick(int)", "int calm(int)", "int feed(int,int,int,int,int)",
    "boolean end(int)", "int text(int)", "int run(int)", "int fault(int)", "int go(int,int)", "int node(int,int,int)",
    "int miss(int,int)", "int table(int,int,int)", "int message(int,int)", "int seen(int,int)", "int program(int,int)",
    "int soon(int)", "int walk(int)", "int where(int,int)", "int cost(int,int)", "int group(int,int)",
    "int trace(int,int)", "int flow(int,int,int)", "int can(int,int)", "int worth(int)", "boolean image(boolean)",
    "int look(int)",
  };
  private static final String[] NOT_THERE = {
    "\\bthrow\\b", "\\btry\\b", "\\bcatch\\b", "\\bsynchronized\\b", "\\bassert\\b", "->", "::", "Exact\\b",
    "\\bprotected\\b", "\\bpackage\\b", "\\bhashCode\\b", "\\btoString\\b", "\\bstatic\\s*\\{", "\\bvar\\b",
  };
  private static int wrong = 0;

  private static void must(boolean holds, String what) {
    if (!holds) {
      wrong++;
      System.out.println("not so: " + what);
    }
  }

  private static String form(Method m) {
    StringBuilder s = new StringBuilder(m.getReturnType() + " " + m.getName() + "(");
    for (Class<?> p : m.getParameterTypes()) s.append(s.charAt(s.length() - 1) == '(' ? "" : ",").append(p);
    return s.append(")").toString();
  }

  private static void face() {
    Class<?> c = CountedTokens.class;
    must(Modifier.isPublic(c.getModifiers()) && Modifier.isFinal(c.getModifiers()), "public final");
    Set<String> due = new TreeSet<>(Arrays.asList(FACE));
    Set<String> names = new TreeSet<>();
    for (String f : FACE) names.add(f.substring(f.indexOf(' ') + 1, f.indexOf('(')));
    for (Method m : c.getDeclaredMethods()) {
      if (Modifier.isPrivate(m.getModifiers())) must(!names.contains(m.getName()), "private " + m.getName() + " has another name");
      else must(due.remove(form(m)) && Modifier.isPublic(m.getModifiers()) && !Modifier.isStatic(m.getModifiers()), form(m) + " is in the face");
    }
    must(due.isEmpty(), "all methods are there, but for " + due);
    for (Field f : c.getDeclaredFields()) {
      int mod = f.getModifiers();
      must(Modifier.isPrivate(mod) || f.getName().equals("NONE") && Modifier.isPublic(mod) && Modifier.isStatic(mod), "field " + f.getName() + " is private");
      must(!Modifier.isStatic(mod) || Modifier.isFinal(mod), "static field " + f.getName() + " is final");
    }
    must(CountedTokens.NONE == -1, "NONE is -1");
    Constructor<?>[] made = c.getDeclaredConstructors();
    must(made.length == 1 && made[0].getParameterCount() == 0 && Modifier.isPublic(made[0].getModifiers()), "one constructor");
    must(c.getDeclaredClasses().length <= 11, "at most some twelve classes");
    for (Class<?> inside : c.getDeclaredClasses()) {
      must(Modifier.isStatic(inside.getModifiers()), inside + " is static");
      int fields = 0;
      for (Field f : inside.getDeclaredFields()) if (!Modifier.isStatic(f.getModifiers())) fields++;
      must(fields <= 20, inside + " has some twenty fields at most");
      for (Method m : inside.getDeclaredMethods()) {
        must(!names.contains(m.getName()), m + " has another name than those of the face");
        must(m.getParameterCount() <= 7, m + " takes seven at most");
      }
    }
  }

  private static void text() throws Exception {
    String all = Files.readString(Path.of("src/main/java/CountedTokens.java"));
    String code = all.replaceAll("(?s)/\\*.*?\\*/", " ").replaceAll("//[^\\n]*", " ").replaceAll("\"[^\"\\n]*\"", "\"\"");
    for (String bad : NOT_THERE) must(!Pattern.compile(bad).matcher(code).find(), "no " + bad);
    Matcher imports = Pattern.compile("import ([^;]*);").matcher(code);
    while (imports.find()) must(imports.group(1).equals("java.util.Arrays"), "import of " + imports.group(1));
    Matcher library = Pattern.compile("\\b(Arrays|System|Math|Integer|Long|String)\\.(\\w+)").matcher(code);
    Set<String> allowed = Set.of("Arrays.fill", "System.arraycopy", "Math.max", "Math.min");
    while (library.find()) must(allowed.contains(library.group()), "library: " + library.group());
    for (int i = 0; i < all.length(); i++) must(all.charAt(i) < 127, "plain signs");
  }

  public static void main(String[] args) throws Exception {
    face();
    text();
    System.out.println("FaceTest: " + wrong + " wrong");
    if (wrong != 0) System.exit(1);
  }
}
