import java.io.IOException;
import java.lang.reflect.Constructor;
import java.lang.reflect.Field;
import java.lang.reflect.Method;
import java.lang.reflect.Modifier;
import java.nio.file.Files;
import java.nio.file.Path;
import java.util.Set;
import java.util.TreeSet;

/** The face of the class, and what of LANGUAGE.md can be read off its text. Its argument: the class's file. */
public final class RulesTests {
  private static final String[] FACE = {
    "int append(int) throws IllegalArgumentException, IllegalStateException", "int bestMove()", "int clearBuffer()",
    "int count(int) throws IllegalArgumentException", "int cross(int) throws IllegalArgumentException, IllegalStateException",
    "int crossing(int) throws IllegalArgumentException", "int firstError()", "int halved(int, int) throws IndexOutOfBoundsException",
    "int handle() throws IllegalStateException", "int keep()", "int lace() throws IllegalArgumentException",
    "int left(int) throws IllegalArgumentException",
    "int lies(int, int) throws IndexOutOfBoundsException, IllegalArgumentException",
    "int measure(int, int) throws IndexOutOfBoundsException",
    "int move(int, int) throws IllegalArgumentException, IllegalStateException", "int open() throws IllegalStateException",
    "int pair(int, int) throws IllegalArgumentException, IllegalStateException",
    "int possible(int) throws IllegalArgumentException", "int pull()", "int restore() throws IllegalStateException",
    "int same() throws IllegalStateException", "int turn()", "int undo() throws IllegalStateException",
    "int untangled(int) throws IllegalArgumentException", "int whyNot(int, int) throws IllegalArgumentException",
    "int winding(int, int) throws IndexOutOfBoundsException", "double slack()", "long digest()",
  };

  private static final String[] NOT_IN_THE_TEXT = {
    "import ", "package ", "->", "::", "try", "catch", "finally", "synchronized", "assert ", "System.out", "Double.", "Float.",
    "StrictMath", "Exact(", "static {", "Random", "nanoTime", "currentTimeMillis", "native", "volatile", "\" +", "+ \"",
  };

  private static int passed = 0;
  private static int failed = 0;

  private static void check(String what, boolean fine) {
    if (fine) {
      passed++;
    } else {
      failed++;
      System.out.println(what);
    }
  }

  private static String told(Method method) {
    StringBuilder text = new StringBuilder(method.getReturnType() + " " + method.getName() + "(");
    for (Class<?> parameter : method.getParameterTypes()) {
      text.append(text.charAt(text.length() - 1) == '(' ? "" : ", ").append(parameter);
    }
    text.append(")");
    String joint = " throws ";
    for (Class<?> thrown : method.getExceptionTypes()) {
      text.append(joint).append(thrown.getSimpleName());
      joint = ", ";
    }
    return text.toString();
  }

  private static void face() {
    Set<String> got = new TreeSet<>();
    Set<String> publicNames = new TreeSet<>();
    for (Method method : LaceTangles.class.getDeclaredMethods()) {
      if (Modifier.isPrivate(method.getModifiers()) || method.isSynthetic()) {
        continue;
      }
      got.add(told(method));
      publicNames.add(method.getName());
      check(method + " is public and no static one", method.getModifiers() == Modifier.PUBLIC);
    }
    check("the face is " + got, got.equals(new TreeSet<>(Set.of(FACE))));
    for (Method method : LaceTangles.class.getDeclaredMethods()) {
      check(method + " bears no public name",
          !Modifier.isPrivate(method.getModifiers()) || !publicNames.contains(method.getName()));
    }
    for (Field field : LaceTangles.class.getDeclaredFields()) {
      boolean isNone = field.getName().equals("NONE");
      check(field + " is as it may be", Modifier.isPublic(field.getModifiers()) == isNone
          && Modifier.isPrivate(field.getModifiers()) != isNone
          && (!Modifier.isStatic(field.getModifiers()) || Modifier.isFinal(field.getModifiers())));
    }
    Constructor<?>[] constructors = LaceTangles.class.getDeclaredConstructors();
    check("one public constructor", constructors.length == 1 && constructors[0].getModifiers() == Modifier.PUBLIC
        && constructors[0].getParameterCount() == 0);
    check("a public and final class", LaceTangles.class.getModifiers() == (Modifier.PUBLIC | Modifier.FINAL));
    for (Class<?> inside : LaceTangles.class.getDeclaredClasses()) {
      check(inside + " is private and static",
          Modifier.isPrivate(inside.getModifiers()) && Modifier.isStatic(inside.getModifiers()));
    }
    check("twelve classes at most", LaceTangles.class.getDeclaredClasses().length < 12);
  }

  private static void text(Path file) throws IOException {
    String text = Files.readString(file).replaceAll("(?s)/\\*.*?\\*/", "").replaceAll("//[^\n]*", "");
    for (String part : NOT_IN_THE_TEXT) {
      check("the text has " + part, !text.contains(part));
    }
    check("the text has signs above 127", text.chars().allMatch(c -> c < 128));
  }

  /** All calls of a run live in one room, so even 512 of the dearest ones must make next to nothing. */
  private static void room() {
    LaceTangles x = new LaceTangles();
    x.keep();
    for (int place = 0; place < 28; place++) {
      x.cross(place % 3 == 0 ? 1 : place % 3 == 1 ? -2 : 3);
    }
    calls(x);
    com.sun.management.ThreadMXBean bean =
        (com.sun.management.ThreadMXBean) java.lang.management.ManagementFactory.getThreadMXBean();
    long before = bean.getCurrentThreadAllocatedBytes();
    for (int times = 0; times < 512; times++) {
      calls(x);
    }
    long made = bean.getCurrentThreadAllocatedBytes() - before;
    check("512 rounds of calls made " + made + " bytes", made < 100_000);
  }

  private static void calls(LaceTangles x) {
    x.digest();
    x.same();
    x.pair(3, 1);
    x.move(0, 3);
    x.append('a');
    x.lace();
    x.turn();
    x.pull();
    x.restore();
    for (int times = 0; times < 6; times++) {
      x.undo();
    }
  }

  public static void main(String[] args) throws IOException {
    face();
    text(Path.of(args[0]));
    room();
    System.out.println("RulesTests: " + passed + " passed, " + failed + " failed");
    if (failed != 0) {
      System.exit(1);
    }
  }
}
