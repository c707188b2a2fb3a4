import java.util.List;

/** What the tests of the document share: how they make objects and ask them, what they see of one, and how they count. */
final class Checks {
  /** Makes ready what a test wants to ask. */
  interface Setup {
    void on(LaceTangles x);
  }

  interface Call {
    Object of(LaceTangles x);
  }

  static final int LOW = Integer.MIN_VALUE;
  static final int HIGH = Integer.MAX_VALUE;
  static final int[] CROSSINGS = {1, 2, 3, -1, -2, -3};

  private static int passed = 0;
  private static int failed = 0;
  private static String where = "";

  private Checks() {}

  /** The checks from here on hold the class against this. */
  static void against(String promiseAndSentence) {
    where = promiseAndSentence;
  }

  static void check(String what, boolean fine) {
    if (fine) {
      passed++;
    } else {
      failed++;
      System.out.println(where + ": " + what);
    }
  }

  /** Tells the sums, and ends the machine with 1 if a check failed. */
  static void end(String name) {
    System.out.println(name + ": " + passed + " passed, " + failed + " failed");
    if (failed != 0) {
      System.exit(1);
    }
  }

  static void due(String what, long got, long want) {
    check(what + " answered " + got + ", due is " + want, got == want);
  }

  /** By its bits, so that 0.0 and -0.0 are told apart. */
  static void dueShare(String what, double got, double want) {
    check(what + " answered " + got + ", due is " + want,
        Double.doubleToRawLongBits(got) == Double.doubleToRawLongBits(want));
  }

  static void dueRow(LaceTangles x, String want) {
    check("the crossings are " + row(x) + ", due is " + want, row(x).equals(want));
  }

  static void dueCounts(LaceTangles x, int... want) {
    String of = ") of " + row(x);
    for (int what = 0; what < want.length; what++) {
      due("count(" + what + of, x.count(what), want[what]);
    }
  }

  static void dueHalvesAsWhole(LaceTangles x) {
    String of = ") of " + row(x);
    for (int row = 0; row < 4; row++) {
      for (int column = 0; column < 4; column++) {
        due("halved(" + row + ", " + column + of, x.halved(row, column), x.measure(row, column));
      }
    }
  }

  /** Tangles are written as in the document's texts: "aB" has the crossings 1 and -2. */
  static int crossingOf(char letter) {
    return letter >= 'a' ? letter - 'a' + 1 : 'A' - 1 - letter;
  }

  static String letterOf(int crossing) {
    return "CBA?abc".substring(crossing + 3, crossing + 4);
  }

  static String row(LaceTangles x) {
    StringBuilder letters = new StringBuilder();
    int many = x.count(0);
    for (int place = 0; place < many; place++) {
      letters.append(letterOf(x.crossing(place) - 10));
    }
    return letters.toString();
  }

  static void lay(LaceTangles x, String letters) {
    for (char letter : letters.toCharArray()) {
      x.cross(crossingOf(letter));
    }
  }

  static void type(LaceTangles x, String text) {
    for (char c : text.toCharArray()) {
      x.append(c);
    }
  }

  static LaceTangles made(Setup setup) {
    LaceTangles x = new LaceTangles();
    setup.on(x);
    return x;
  }

  static LaceTangles laid(String letters) {
    return made(bare(letters));
  }

  /** These crossings and nothing else, but for what is saved by them. */
  static Setup bare(String letters) {
    return x -> lay(x, letters);
  }

  /** These crossings, one saved state at most, a snapshot of none, and a buffer with an error. */
  static Setup few(String letters) {
    return x -> {
      x.keep();
      if (!letters.isEmpty()) {
        type(x, letters);
        x.lace();
      }
      type(x, "b3?");
    };
  }

  /** These crossings, a move made, a snapshot of "b", and a buffer with an error; 5 saved states or more. */
  static Setup busy(String letters) {
    return x -> {
      lay(x, "bcC");
      x.move(0, 1);
      x.keep();
      x.open();
      lay(x, letters);
      type(x, "a2?");
    };
  }

  static String answer(LaceTangles x, Call call) {
    try {
      return String.valueOf(call.of(x));
    } catch (RuntimeException e) {
      return "throws." + e.getClass().getSimpleName();
    }
  }

  /** What can be seen without a change; the digest has the buffer's characters. */
  static String seen(LaceTangles x) {
    // the digest first: what another look spoils would be spoilt in the twin too
    StringBuilder text = new StringBuilder("digest " + x.digest() + " error " + x.firstError() + " counts");
    for (int what = 0; what <= 7; what++) {
      text.append(' ').append(x.count(what));
    }
    text.append(" row ").append(row(x)).append(" same ").append(answer(x, LaceTangles::same));
    return text.toString();
  }

  /** All that is in an object, told by using it up: the saved states and the snapshot come to light too. */
  static String all(LaceTangles x) {
    StringBuilder text = new StringBuilder(seen(x));
    for (int times = 0; times < 8 && x.count(7) > 0; times++) {
      x.undo();
      text.append("; undo: ").append(seen(x));
    }
    text.append("; restore: ").append(answer(x, LaceTangles::restore)).append(' ').append(seen(x));
    return text.toString();
  }

  private static void dueAlike(String what, LaceTangles x, LaceTangles twin) {
    String got = all(x);
    String want = all(twin);
    check(what + " left " + got + ", due is " + want, got.equals(want));
  }

  /** The call throws just this, and leaves all as it is in a twin that was not called. */
  static void refused(Class<?> want, String what, Setup setup, Call call) {
    LaceTangles x = made(setup);
    Class<?> got = null;
    try {
      call.of(x);
    } catch (RuntimeException e) {
      got = e.getClass();
    }
    check(what + " threw " + got + ", due is " + want, got == want);
    dueAlike(what + ", which is refused,", x, made(setup));
  }

  /** The same for these crossings with little about them, and with all about them that could be spoilt. */
  private static void refusedAt(Class<?> want, String what, String letters, Call call) {
    String told = what + " at " + letters;
    refused(want, told, bare(letters), call);
    refused(want, told, few(letters), call);
    refused(want, told, busy(letters), call);
  }

  static void badArgument(String letters, String what, Call call) {
    refusedAt(IllegalArgumentException.class, what, letters, call);
  }

  static void badState(String letters, String what, Call call) {
    refusedAt(IllegalStateException.class, what, letters, call);
  }

  static void badIndex(String letters, String what, Call call) {
    refusedAt(IndexOutOfBoundsException.class, what, letters, call);
  }

  /** The call saves one state, and undo() brings back all that a twin has that was not called. */
  static void undoable(String what, Setup setup, Call call) {
    LaceTangles x = made(setup);
    int saved = x.count(7);
    check(what + " is asked where a saved state would be dropped", saved < 6);
    call.of(x);
    due("count(7) behind " + what, x.count(7), saved + 1);
    due("undo() behind " + what, x.undo(), saved);
    dueAlike("undo() of " + what, x, made(setup));
  }

  /** The call answers without an exception at these crossings, and changes nothing at all. */
  static void changesNothing(String what, String letters, Call call) {
    for (Setup setup : List.of(few(letters), busy(letters))) {
      LaceTangles x = made(setup);
      String got = answer(x, call);
      check(what + " threw", !got.startsWith("throws."));
      dueAlike(what, x, made(setup));
    }
  }
}
