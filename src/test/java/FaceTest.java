import java.io.IOException;
import java.lang.reflect.Constructor;
import java.lang.reflect.Field;
import java.lang.reflect.Method;
import java.lang.reflect.Modifier;
import java.nio.file.Files;
import java.nio.file.Path;
import java.util.List;
import java.util.TreeSet;
import java.util.regex.Matcher;
import java.util.regex.Pattern;

/** The document's face and no more of it, and those rules of LANGUAGE.md that can be read off the class and its file. */
public final class FaceTest {
  private static final String FACE = "int write(int,long) int wipe() int fault(boolean) int law() int lawful(int) int story(int)"
      + " int lived(int,int,int) int at(int,int) int warmth(int,int,int) int round(int,int) int after(int,int,int)"
      + " int run(int,int,int) int till(int,int,boolean) int rests(int) int rest(int,int) int settle(int,int)"
      + " int jumps(int,int,int) int jump(int,int,int,int) int curve(int,int,int) int least(boolean)"
      + " int bed(int,int,int,int,int,int) int forget() int about(int,int) int explains(int,int) long chance(int,int,boolean)"
      + " int weight(int,int) long odds(int,boolean) int best() int mover() int next() int once() int times() int time(int)"
      + " int order(int) int gap(int) int pole(int,int) int elsewhere(int) int keep(int) int again(int) int count(int)";

  public static void main(String[] args) throws IOException {
    methods();
    fields();
    classesInside();
    List<String> lines = Files.readAllLines(Path.of(args.length > 0 ? args[0] : "src/main/java/IceAtTheMiddle.java"));
    words(lines);
    objectsAreMadeInFieldsAlone(lines);
    methodsAreShort(lines);
    Due.end("FaceTest");
  }

  private static void methods() {
    TreeSet<String> want = new TreeSet<>(List.of(FACE.replace(" int ", ";int ").replace(" long ", ";long ").split(";")));
    TreeSet<String> got = new TreeSet<>();
    TreeSet<String> names = new TreeSet<>();
    for (Method m : IceAtTheMiddle.class.getDeclaredMethods()) {
      if (Modifier.isPrivate(m.getModifiers())) continue;
      StringBuilder types = new StringBuilder();
      for (Class<?> c : m.getParameterTypes()) types.append(types.length() == 0 ? "" : ",").append(c.getName());
      got.add(m.getReturnType().getName() + " " + m.getName() + "(" + types + ")");
      names.add(m.getName());
      Due.holds("public, of the object, without exceptions: " + m, m.getModifiers() == Modifier.PUBLIC && m.getExceptionTypes().length == 0);
    }
    Due.is("how many methods", want.size(), 40);
    Due.holds("the methods are those of the document: " + got, got.equals(want));
    for (Method m : IceAtTheMiddle.class.getDeclaredMethods()) {
      Due.holds("no private one bears a public name: " + m, !Modifier.isPrivate(m.getModifiers()) || !names.contains(m.getName()));
    }
    Constructor<?>[] made = IceAtTheMiddle.class.getDeclaredConstructors();
    Due.is("how many constructors", made.length, 1);
    Due.holds("it is public, without arguments", made[0].getModifiers() == Modifier.PUBLIC && made[0].getParameterCount() == 0);
    int is = IceAtTheMiddle.class.getModifiers();
    Due.holds("the class is public and final", is == (Modifier.PUBLIC | Modifier.FINAL));
  }

  private static void fields() {
    TreeSet<String> open = new TreeSet<>();
    for (Field f : IceAtTheMiddle.class.getDeclaredFields()) {
      Due.holds("no field that changes: " + f, Modifier.isFinal(f.getModifiers()));
      if (!Modifier.isPrivate(f.getModifiers())) {
        open.add(f.getName());
        Due.holds("a constant: " + f, f.getModifiers() == (Modifier.PUBLIC | Modifier.STATIC | Modifier.FINAL) && f.getType() == int.class);
      }
    }
    Due.holds("the constants are those of the document", open.equals(new TreeSet<>(List.of("UNKNOWN", "OUTSIDE", "STATE", "FULL", "NONE"))));
    Due.is("UNKNOWN", IceAtTheMiddle.UNKNOWN, -1);
    Due.is("OUTSIDE", IceAtTheMiddle.OUTSIDE, -2);
    Due.is("STATE", IceAtTheMiddle.STATE, -3);
    Due.is("FULL", IceAtTheMiddle.FULL, -4);
    Due.is("NONE", IceAtTheMiddle.NONE, -9);
  }

  private static void classesInside() {
    Class<?>[] inside = IceAtTheMiddle.class.getDeclaredClasses();
    Due.holds("at most twelve classes", inside.length < 12);
    for (Class<?> c : inside) {
      Due.holds("static and not public: " + c, Modifier.isStatic(c.getModifiers()) && !Modifier.isPublic(c.getModifiers()));
      for (Field f : c.getDeclaredFields()) {
        boolean isStatic = Modifier.isStatic(f.getModifiers());
        Due.holds("no static state: " + f, !isStatic || Modifier.isFinal(f.getModifiers()));
      }
      for (Method m : c.getDeclaredMethods()) Due.holds("seven parameters at most: " + m, m.getParameterCount() <= 7);
    }
  }

  private static void words(List<String> lines) {
    Pattern barred = Pattern.compile("\\b(throw|throws|try|catch|synchronized|assert|import|package|hashCode|toString|double|float)\\b|->|::|Exact\\b|@");
    for (String line : lines) {
      String code = line.replaceAll("//.*|^\\s*/?\\*.*", "");
      Matcher m = barred.matcher(code);
      Due.holds("no such word: " + line, !m.find());
      Due.holds("plain signs alone: " + line, line.chars().allMatch(c -> c >= 32 && c < 127));
    }
  }

  /** Calls make nothing, so that all calls of a run have room. */
  private static void objectsAreMadeInFieldsAlone(List<String> lines) {
    for (String line : lines) {
      if (line.matches(".*\\bnew\\b.*[(\\[].*")) Due.holds("made in a field: " + line, line.matches("\\s+(private )?final \\S+ \\S+ = .*;"));
    }
  }

  private static void methodsAreShort(List<String> lines) {
    int start = -1;
    String indent = "";
    for (int i = 0; i < lines.size(); i++) {
      String line = lines.get(i);
      if (start < 0 && line.matches("\\s+.*\\) \\{") && !line.matches("\\s+(if|for|while|switch|} else).*")) {
        start = i;
        indent = line.substring(0, line.indexOf(line.trim()));
      } else if (start >= 0 && line.equals(indent + "}")) {
        Due.holds("some forty lines at most: " + lines.get(start), i - start <= 40);
        start = -1;
      }
    }
  }
}
