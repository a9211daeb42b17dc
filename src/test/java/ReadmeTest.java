import java.io.File;
import java.io.IOException;
import java.lang.reflect.Method;
import java.lang.reflect.Modifier;
import java.nio.file.Files;
import java.nio.file.Path;
import java.util.List;
import java.util.TreeSet;
import java.util.regex.Matcher;
import java.util.regex.Pattern;

/** README.md shows calls with their answers: they are called here, so that the page can't go stale unseen. */
public final class ReadmeTest {
  private static final Pattern MADE = Pattern.compile("IceAtTheMiddle x = new IceAtTheMiddle\\(\\);");
  private static final Pattern CALL = Pattern.compile("x\\.(\\w+)\\((.*?)\\);\\s+// (\\w+|-\\d+): .+");

  private final TreeSet<String> shown = new TreeSet<>();
  private IceAtTheMiddle x;

  public static void main(String[] args) throws IOException, ReflectiveOperationException {
    List<String> lines = Files.readAllLines(Path.of("README.md"));
    ReadmeTest t = new ReadmeTest();
    t.callAll(lines);
    t.allMethodsAreShown();
    allTestsAreNamed(lines);
    Due.end("ReadmeTest");
  }

  private void callAll(List<String> lines) throws ReflectiveOperationException {
    boolean isJava = false;
    for (String line : lines) {
      if (line.startsWith("```")) {
        isJava = line.equals("```java");
        x = null;
      } else if (isJava && MADE.matcher(line).matches()) {
        x = new IceAtTheMiddle();
      } else if (isJava) {
        callOne(line);
      }
    }
  }

  private void callOne(String line) throws ReflectiveOperationException {
    Matcher m = CALL.matcher(line);
    boolean isCall = m.matches() && x != null;
    Due.holds("README.md has a call and its answer: " + line, isCall);
    if (!isCall) return;
    shown.add(m.group(1));
    String[] given = m.group(2).isEmpty() ? new String[0] : m.group(2).split(", ");
    Method method = methodOf(m.group(1));
    boolean fits = method != null && method.getParameterCount() == given.length;
    Due.holds("the class has such a call: " + line, fits);
    if (!fits) return;
    Object[] values = new Object[given.length];
    for (int i = 0; i < given.length; i++) values[i] = valueOf(given[i], method.getParameterTypes()[i]);
    Due.is("README.md: " + line, ((Number) method.invoke(x, values)).longValue(), answerOf(m.group(3)));
  }

  private static Method methodOf(String name) {
    for (Method m : IceAtTheMiddle.class.getMethods()) {
      if (m.getDeclaringClass() == IceAtTheMiddle.class && m.getName().equals(name)) return m;
    }
    return null;
  }

  private static Object valueOf(String given, Class<?> type) {
    if (type == boolean.class) return given.equals("true");
    if (type == long.class) return Long.decode(given.replace("L", ""));
    return Integer.decode(given);
  }

  private static long answerOf(String told) throws ReflectiveOperationException {
    return told.matches("-?\\d+") ? Long.parseLong(told) : IceAtTheMiddle.class.getField(told).getInt(null);
  }

  private void allMethodsAreShown() {
    for (Method m : IceAtTheMiddle.class.getDeclaredMethods()) {
      if (Modifier.isPublic(m.getModifiers())) Due.holds("README.md shows " + m.getName(), shown.contains(m.getName()));
    }
  }

  private static void allTestsAreNamed(List<String> lines) {
    String page = String.join("\n", lines);
    Due.holds("README.md says how to run the tests", page.contains("bash .ci/run"));
    String[] files = new File("src/test/java").list();
    Due.holds("there are tests", files != null && files.length > 0);
    if (files == null) return;
    for (String file : files) {
      String name = file.replace(".java", "");
      if (name.endsWith("Test")) Due.holds("README.md names " + name, page.contains("- `" + name + "`"));
    }
  }
}
