import java.io.IOException;
import java.lang.reflect.Method;
import java.nio.file.Files;
import java.nio.file.Path;
import java.util.HashMap;
import java.util.Map;
import java.util.Set;
import java.util.TreeSet;
import java.util.regex.Matcher;
import java.util.regex.Pattern;

/** Makes every call that README.md shows, and looks whether it answers as it says there. */
public final class ReadmeTest {
  private static final Path README = Path.of("README.md");
  private static final Path TESTS = Path.of("src/test/java");
  private static final String NEW_DEPOT = "DepotTrays depot = new DepotTrays();";
  private static final Pattern CALL =
      Pattern.compile("(?:(int|long) (\\w+) = )?depot\\.(\\w+)\\(([^()]*)\\); *// (-?\\d+)(?:: .+)?");

  private static final Map<String, Method> FACE = face();
  private static final Set<String> shown = new TreeSet<>();

  private static DepotTrays depot = null;
  private static final Map<String, Long> names = new HashMap<>();

  public static void main(String[] args) throws IOException {
    boolean inBlock = false;
    for (String line : Files.readAllLines(README)) {
      if (line.startsWith("```")) {
        inBlock = line.equals("```java");
        depot = null;
        names.clear();
      } else if (inBlock && !line.isBlank()) {
        lookAt(line);
      }
    }
    Due.same("what README.md shows of the face", shown.toString(), new TreeSet<>(FACE.keySet()).toString());
    Due.same("the tests that README.md tells of", testsTold().toString(), testsThere().toString());
    Due.end();
  }

  private static void lookAt(String line) {
    if (line.equals(NEW_DEPOT) && depot == null) {
      depot = new DepotTrays();
      return;
    }
    Matcher call = CALL.matcher(line);
    if (depot == null || !call.matches()) {
      Due.same("a line of README.md", line, "a call of a depot that has been made, with its answer");
      return;
    }
    shown.add(call.group(3));
    long answer = answer(line, FACE.get(call.group(3)), call.group(1), call.group(4));
    Due.due(line, answer, Long.parseLong(call.group(5)));
    if (call.group(2) != null) names.put(call.group(2), answer);
  }

  /** The answer of a call that would compile, as shown. */
  private static long answer(String line, Method method, String type, String text) {
    if (method == null) throw new IllegalStateException("no such method: " + line);
    String[] parts = text.isEmpty() ? new String[0] : text.split(", ");
    Class<?>[] types = method.getParameterTypes();
    boolean narrows = "int".equals(type) && method.getReturnType() == long.class;
    if (parts.length != types.length || narrows) throw new IllegalStateException("does not compile: " + line);
    Object[] values = new Object[parts.length];
    for (int i = 0; i < parts.length; i++) {
      if (types[i] == long.class) values[i] = value(parts[i]);
      else values[i] = Math.toIntExact(value(parts[i]));
    }
    try {
      return ((Number) method.invoke(depot, values)).longValue();
    } catch (ReflectiveOperationException e) {
      throw new IllegalStateException(line, e);
    }
  }

  private static long value(String text) {
    if (names.containsKey(text)) return names.get(text);
    if (text.equals("DepotTrays.NONE")) return DepotTrays.NONE;
    if (text.endsWith("L")) return Long.parseLong(text.substring(0, text.length() - 1));
    return Integer.parseInt(text);
  }

  private static Map<String, Method> face() {
    Map<String, Method> face = new HashMap<>();
    for (Method method : DepotTrays.class.getMethods()) {
      if (method.getDeclaringClass() == DepotTrays.class) face.put(method.getName(), method);
    }
    return face;
  }

  private static Set<String> testsTold() throws IOException {
    Set<String> told = new TreeSet<>();
    Matcher test = Pattern.compile("`(\\w+Test)`").matcher(Files.readString(README));
    while (test.find()) told.add(test.group(1));
    return told;
  }

  private static Set<String> testsThere() throws IOException {
    Set<String> there = new TreeSet<>();
    try (var files = Files.newDirectoryStream(TESTS, "*Test.java")) {
      for (Path file : files) there.add(file.getFileName().toString().replace(".java", ""));
    }
    return there;
  }
}
