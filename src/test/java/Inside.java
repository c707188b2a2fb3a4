import java.lang.reflect.Constructor;
import java.lang.reflect.Field;
import java.lang.reflect.Method;

/**
 * Untangles rows that are too long for the face. Of 60 crossings, the most that same() untangles, searches never made
 * more than 242, so the bound of 400 can only be met from inside; and untangled() and left() never met that of 600.
 * Who changes the class's own Untangler changes this with it.
 */
final class Inside {
  private final Object untangler;

  private Inside(Object untangler) {
    this.untangler = untangler;
  }

  static Inside untangling(String letters) {
    try {
      Class<?> kind = Class.forName("LaceTangles$Untangler");
      Constructor<?> constructor = kind.getDeclaredConstructor();
      constructor.setAccessible(true);
      Inside inside = new Inside(constructor.newInstance());
      inside.call("begin");
      inside.fill(letters);
      inside.call("untangle");
      return inside;
    } catch (ReflectiveOperationException e) {
      throw new IllegalStateException(e);
    }
  }

  private void fill(String letters) throws ReflectiveOperationException {
    Field field = untangler.getClass().getDeclaredField("work");
    field.setAccessible(true);
    Object work = field.get(untangler);
    Method add = work.getClass().getDeclaredMethod("add", int.class);
    add.setAccessible(true);
    for (char letter : letters.toCharArray()) {
      if (!add.invoke(work, Checks.crossingOf(letter)).equals(true)) {
        throw new IllegalStateException("no room for " + letters);
      }
    }
  }

  private Object call(String name) throws ReflectiveOperationException {
    Method method = untangler.getClass().getDeclaredMethod(name);
    method.setAccessible(true);
    return method.invoke(untangler);
  }

  private int call(String name, int argument) {
    try {
      Method method = untangler.getClass().getDeclaredMethod(name, int.class);
      method.setAccessible(true);
      return (Integer) method.invoke(untangler, argument);
    } catch (ReflectiveOperationException e) {
      throw new IllegalStateException(e);
    }
  }

  /** What untangled() would answer. */
  int answer(int what) {
    return call("answer", what);
  }

  /** What left() would answer. */
  int leftAt(int place) {
    return call("leftAt", place);
  }
}
