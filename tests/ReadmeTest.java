import java.net.URL;
import java.net.URLClassLoader;
import java.nio.file.Files;
import java.nio.file.Path;
import java.util.ArrayList;
import java.util.List;
import java.util.regex.Matcher;
import java.util.regex.Pattern;
import javax.tools.ToolProvider;

/** The lines of README.md that tell an answer give it. */
public final class ReadmeTest {
  private static final Pattern ANSWERED = Pattern.compile("\\s*(\\w.*\\));\\s*// (-?\\d+|true|false)\\b.*");

  private static List<String> blocks() throws Exception {
    List<String> all = new ArrayList<>();
    Matcher m = Pattern.compile("(?s)```java\n(.*?)```").matcher(Files.readString(Path.of("README.md")));
    while (m.find()) all.add(m.group(1));
    return all;
  }

  private static String checked(String block) {
    StringBuilder s = new StringBuilder();
    for (String line : block.split("\n")) {
      Matcher m = ANSWERED.matcher(line);
      boolean is = m.matches() && !m.group(1).contains(" new ");
      s.append(is ? "Due.due(0, \"README: " + m.group(1).replace("\"", "'") + "\", " + m.group(1) + ", " + m.group(2) + ");" : line).append('\n');
    }
    return s.toString();
  }

  public static void main(String[] args) throws Exception {
    StringBuilder s = new StringBuilder("public final class Readme { public static void main(String[] args) {\n");
    StringBuilder members = new StringBuilder();
    for (String block : blocks()) {
      if (block.startsWith("static ")) members.append(block);
      else s.append("{\n").append(checked(block)).append("}\n");
    }
    s.append("}\n").append(members).append("}\n");
    Path at = Files.createDirectories(Path.of("build/readme"));
    Path source = at.resolve("Readme.java");
    Files.writeString(source, s);
    int built = ToolProvider.getSystemJavaCompiler().run(null, null, null, "-cp", System.getProperty("java.class.path"), "-d", at.toString(), source.toString());
    Due.due(0, "README's lines compile", built, 0);
    if (built == 0) {
      // Due is package-visible: its class must come from the same loader
      List<URL> urls = new ArrayList<>(List.of(at.toUri().toURL()));
      for (String part : System.getProperty("java.class.path").split(System.getProperty("path.separator"))) urls.add(Path.of(part).toUri().toURL());
      try (URLClassLoader loader = new URLClassLoader(urls.toArray(new URL[0]), null)) {
        loader.loadClass("Readme").getMethod("main", String[].class).invoke(null, (Object) new String[0]);
        Class<?> due = loader.loadClass("Due");
        Due.told += count(due, "told");
        Due.wrong += count(due, "wrong");
      }
    }
    Due.due(0, "README has lines with answers", Due.told > 20, true);
    Due.close("ReadmeTest");
  }

  private static int count(Class<?> due, String name) throws Exception {
    java.lang.reflect.Field f = due.getDeclaredField(name);
    f.setAccessible(true);
    return f.getInt(null);
  }
}
