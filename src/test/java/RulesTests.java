import java.io.IOException;
import java.lang.reflect.Constructor;
import java.lang.reflect.Field;
import java.lang.reflect.Method;
import java.lang.reflect.Modifier;
import java.nio.file.Files;
import java.nio.file.Path;
import java.util.ArrayList;
import java.util.List;
import java.util.Set;
import java.util.TreeSet;
import java.util.regex.Matcher;
import java.util.regex.Pattern;

/**
 * The face of the class, and what of LANGUAGE.md can be read off its text. Its arguments: the class's file and the
 * document's.
 */
public final class RulesTests {
  private static final String[] FACE = {
    "int append(int) throws IllegalArgumentException, IllegalStateException", "int bestMove()", "int clearBuffer()",
    "int count(int) throws IllegalArgumentException", "int cross(int) throws IllegalArgumentException, IllegalStateException",
    "int crossing(int) throws IllegalArgumentException", "int firstError()", "int halved(int, int) throws IndexOutOfBoundsException",
    "int handle() throws IllegalStateException", "int keep()", "int lace() throws IllegalArgumentException",
    "int left(int) throws IllegalArgumentException",
    "int lies(int, int) throws IndexOutOfBoundsException, IllegalArgumentException",
    "int measure(int, int) throws IndexOutOfBoundsException",
    "int move(int, int) throws IllegalArgumentException, IllegalStateException", "int open() throws IllegalStateException",
    "int pair(int, int) throws IllegalArgumentException, IllegalStateException",
    "int possible(int) throws IllegalArgumentException", "int pull()", "int restore() throws IllegalStateException",
    "int same() throws IllegalStateException", "int turn()", "int undo() throws IllegalStateException",
    "int untangled(int) throws IllegalArgumentException", "int whyNot(int, int) throws IllegalArgumentException",
    "int winding(int, int) throws IndexOutOfBoundsException", "double slack()", "long digest()",
  };

  private static final String[] NOT_IN_THE_TEXT = {
    "import ", "package ", "->", "::", "try", "catch", "finally", "synchronized", "assert ", "System.out", "Double.", "Float.",
    "StrictMath", "Exact(", "static {", "Random", "nanoTime", "currentTimeMillis", "native", "volatile", "\" +", "+ \"",
  };

  private static int passed = 0;
  private static int failed = 0;

  private static void check(String what, boolean fine) {
    if (fine) {
      passed++;
    } else {
      failed++;
      System.out.println(what);
    }
  }

  private static String told(Method method) {
    StringBuilder text = new StringBuilder(method.getReturnType() + " " + method.getName() + "(");
    for (Class<?> parameter : method.getParameterTypes()) {
      text.append(text.charAt(text.length() - 1) == '(' ? "" : ", ").append(parameter);
    }
    text.append(")");
    String joint = " throws ";
    for (Class<?> thrown : method.getExceptionTypes()) {
      text.append(joint).append(thrown.getSimpleName());
      joint = ", ";
    }
    return text.toString();
  }

  private static void face() {
    Set<String> got = new TreeSet<>();
    Set<String> publicNames = new TreeSet<>();
    for (Method method : LaceTangles.class.getDeclaredMethods()) {
      if (Modifier.isPrivate(method.getModifiers()) || method.isSynthetic()) {
        continue;
      }
      got.add(told(method));
      publicNames.add(method.getName());
      check(method + " is public and no static one", method.getModifiers() == Modifier.PUBLIC);
    }
    check("the face is " + got, got.equals(new TreeSet<>(Set.of(FACE))));
    for (Method method : LaceTangles.class.getDeclaredMethods()) {
      check(method + " bears no public name",
          !Modifier.isPrivate(method.getModifiers()) || !publicNames.contains(method.getName()));
    }
    for (Field field : LaceTangles.class.getDeclaredFields()) {
      boolean isNone = field.getName().equals("NONE");
      check(field + " is as it may be", Modifier.isPublic(field.getModifiers()) == isNone
          && Modifier.isPrivate(field.getModifiers()) != isNone
          && (!Modifier.isStatic(field.getModifiers()) || Modifier.isFinal(field.getModifiers())));
    }
    Constructor<?>[] constructors = LaceTangles.class.getDeclaredConstructors();
    check("one public constructor", constructors.length == 1 && constructors[0].getModifiers() == Modifier.PUBLIC
        && constructors[0].getParameterCount() == 0);
    check("a public and final class", LaceTangles.class.getModifiers() == (Modifier.PUBLIC | Modifier.FINAL));
    for (Class<?> inside : LaceTangles.class.getDeclaredClasses()) {
      check(inside + " is private and static",
          Modifier.isPrivate(inside.getModifiers()) && Modifier.isStatic(inside.getModifiers()));
    }
    check("twelve classes at most", LaceTangles.class.getDeclaredClasses().length < 12);
  }

  private static void text(Path file) throws IOException {
    String text = Files.readString(file).replaceAll("(?s)/\\*.*?\\*/", "").replaceAll("//[^\n]*", "");
    for (String part : NOT_IN_THE_TEXT) {
      check("the text has " + part, !text.contains(part));
    }
    check("the text has signs above 127", text.chars().allMatch(c -> c < 128));
  }

  /** The document's own lines of the face, its parameters' names too, one behind the other in the class. */
  private static void documentsFace(Path file, Path document) throws IOException {
    String text = Files.readString(file);
    String face = Files.readString(document).replaceFirst("(?s).*?```java\n(.*?)```.*", "$1");
    int from = 0;
    for (String line : face.split("\n")) {
      // a constant ends as it does there, a call goes on with its body
      String due = line.contains("(") ? line.trim().replaceFirst(";$", " {") : line.trim();
      int found = text.indexOf(due, from);
      check("the class does not go on with " + due, found >= 0);
      from = Math.max(from, found);
    }
  }

  /** How long, how wide and how large LANGUAGE.md's rule 11 lets methods and classes be. */
  private static void shape(Path file) throws IOException {
    List<Class<?>> classes = new ArrayList<>(List.of(LaceTangles.class.getDeclaredClasses()));
    classes.add(LaceTangles.class);
    for (Class<?> one : classes) {
      int fields = 0;
      for (Field field : one.getDeclaredFields()) {
        fields += Modifier.isStatic(field.getModifiers()) ? 0 : 1;
      }
      check(one + " has " + fields + " fields", fields <= 20);
      for (Method method : one.getDeclaredMethods()) {
        check(method + " has too many parameters", method.getParameterCount() <= 7);
      }
    }
    List<String> lines = Files.readAllLines(file);
    for (int begin = 0; begin < lines.size(); begin++) {
      Matcher head = Pattern.compile("( +)[A-Za-z].*\\(.*\\).* \\{").matcher(lines.get(begin));
      if (head.matches()) {
        int many = lines.subList(begin, lines.size()).indexOf(head.group(1) + "}");
        check("60 lines are not enough for " + lines.get(begin).trim(), many < 60);
      }
    }
  }

  /** All calls of a run live in one room, so even 512 of the dearest ones must make next to nothing. */
  private static void room() {
    LaceTangles x = new LaceTangles();
    x.keep();
    for (int place = 0; place < 28; place++) {
      x.cross(place % 3 == 0 ? 1 : place % 3 == 1 ? -2 : 3);
    }
    calls(x);
    com.sun.management.ThreadMXBean bean =
        (com.sun.management.ThreadMXBean) java.lang.management.ManagementFactory.getThreadMXBean();
    long before = bean.getCurrentThreadAllocatedBytes();
    for (int times = 0; times < 512; times++) {
      calls(x);
    }
    long made = bean.getCurrentThreadAllocatedBytes() - before;
    check("512 rounds of calls made " + made + " bytes", made < 100_000);
  }

  private static void calls(LaceTangles x) {
    x.digest();
    x.same();
    x.pair(3, 1);
    x.move(0, 3);
    x.append('a');
    x.lace();
    x.turn();
    x.pull();
    x.restore();
    for (int times = 0; times < 6; times++) {
      x.undo();
    }
  }

  public static void main(String[] args) throws IOException {
    face();
    documentsFace(Path.of(args[0]), Path.of(args[1]));
    text(Path.of(args[0]));
    shape(Path.of(args[0]));
    room();
    System.out.println("RulesTests: " + passed + " passed, " + failed + " failed");
    if (failed != 0) {
      System.exit(1);
    }
  }
}
