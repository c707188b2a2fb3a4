/** Promises 9 to 12: tangles as texts. */
final class TextsTests {
  private TextsTests() {}

  static void say(Document d) {
    append(d);
    clearBuffer(d);
    firstError(d);
    lace(d);
  }

  private static LaceTangles typed(String text) {
    return Checks.made(x -> Checks.type(x, text));
  }

  private static void append(Document d) {
    d.at("Promise 9: append");
    d.says("Appends a character to the buffer.", () -> {
      LaceTangles x = new LaceTangles();
      x.append('a');
      x.append('2');
      x.append('B');
      Checks.due("lace() of a2B", x.lace(), 3);
      Checks.dueRow(x, "aaB");
      Checks.check("the order tells", typed("xy").digest() != typed("yx").digest());
    });
    d.says("`code`: the character code, 33 to 126", () -> {
      long before = new LaceTangles().digest();
      for (int code = 33; code <= 126; code++) {
        LaceTangles x = new LaceTangles();
        Checks.due("append(" + code + ")", x.append(code), 1);
        // of the values of a digest only the buffer's, the last ones, are others: 0 becomes 1 and the code
        Checks.due("digest() behind it", x.digest(), 31 * (before + 1) + code);
      }
      Checks.badArgument("ab", "append(32)", x -> x.append(32));
      Checks.badArgument("ab", "append(127)", x -> x.append(127));
    });
    d.says("Returns the new length of the buffer.", () -> {
      LaceTangles x = new LaceTangles();
      for (int length = 1; length <= 60; length++) {
        Checks.due("append('z')", x.append('z'), length);
      }
    });
    d.says("Throws `IllegalArgumentException` if code is not 33 to 126", () -> {
      for (int wrong : new int[] {32, 127, 0, -1, -97, 97 + 256, 97 + 65536, 97 - 65536, Checks.LOW, Checks.HIGH}) {
        Checks.badArgument("", "append(" + wrong + ")", x -> x.append(wrong));
        Checks.refused(IllegalArgumentException.class, "append(" + wrong + ") to a full buffer",
            x -> Checks.type(x, "a".repeat(60)), x -> x.append(wrong));
      }
    });
    d.says("Throws `IllegalStateException` if the buffer has 60 characters", () -> {
      LaceTangles x = typed("a".repeat(59));
      Checks.due("the 60th", x.append('b'), 60);
      for (int code : new int[] {33, 'a', '2', 126}) {
        Checks.refused(IllegalStateException.class, "append(" + code + ") to a full buffer", y -> {
          Checks.lay(y, "ab");
          y.keep();
          Checks.type(y, "a2".repeat(30));
        }, y -> y.append(code));
      }
      x.clearBuffer();
      Checks.due("append behind clearBuffer()", x.append('b'), 1);
    });
  }

  private static void clearBuffer(Document d) {
    d.at("Promise 10: clearBuffer");
    d.says("Clears the buffer.", () -> {
      LaceTangles x = typed("a2x");
      long empty = new LaceTangles().digest();
      x.clearBuffer();
      Checks.due("digest() behind it", x.digest(), empty);
      Checks.due("firstError() behind it", x.firstError(), 0);
      Checks.due("append behind it", x.append('a'), 1);
      Checks.due("lace() behind it, without the figure that was cleared,", x.lace(), 1);
    });
    d.says("Returns the length that it had.", () -> {
      Checks.due("clearBuffer() of an empty one", new LaceTangles().clearBuffer(), 0);
      Checks.due("clearBuffer() of one", typed("?").clearBuffer(), 1);
      LaceTangles full = typed("a".repeat(60));
      Checks.due("clearBuffer() of a full one", full.clearBuffer(), 60);
      Checks.due("clearBuffer() again", full.clearBuffer(), 0);
    });
  }

  private static void dueError(String text, int want) {
    LaceTangles x = typed(text);
    Checks.due("firstError() of " + text, x.firstError(), want);
    Checks.due("firstError() again", x.firstError(), want);
    Checks.due("clearBuffer() behind it", x.clearBuffer(), text.length());
  }

  private static void firstError(Document d) {
    d.at("Promise 11: firstError");
    d.says("Finds the first syntax error of the buffer.", () -> {
      dueError("?", 0);
      dueError("a?b?", 1);
      dueError("a1b1", 1);
      dueError("aB3cd22", 4);
      Checks.changesNothing("firstError()", "ab", LaceTangles::firstError);
    });
    d.says("Returns the index of the first character that is a syntax error;", () -> {
      dueError("2", 0);
      dueError("a22", 2);
      dueError("a".repeat(59) + "0", 59);
      dueError("a9".repeat(29) + "a?", 59);
      dueError("9".repeat(60), 0);
    });
    d.says("the length of the buffer if there is none.", () -> {
      dueError("", 0);
      dueError("a", 1);
      dueError("a2", 2);
      dueError("aB3cC", 5);
      dueError("a".repeat(60), 60);
      dueError("C9".repeat(30), 60);
    });
  }

  private static void dueLace(String letters, String text, String want) {
    LaceTangles x = Checks.laid(letters);
    Checks.type(x, text);
    Checks.due("lace() of " + text + " behind " + letters, x.lace(), want.length() - letters.length());
    Checks.dueRow(x, want);
    Checks.due("clearBuffer() behind it", x.clearBuffer(), 0);
  }

  private static void lace(Document d) {
    d.at("Promise 12: lace");
    d.says("Puts the crossings in the buffer behind all others, one after the other,", () -> {
      dueLace("", "a", "a");
      dueLace("", "abcABC", "abcABC");
      dueLace("c", "a3Bb2C", "caaaBbbC");
      dueLace("cb", "C9", "cbCCCCCCCCC");
      dueLace("a", "A2a2", "aAAaa");
    });
    d.says("up to the first one for which there is no room,", () -> {
      String full = "ab".repeat(15);
      dueLace("ab".repeat(14), "Cc", "ab".repeat(14) + "Cc");
      dueLace("ab".repeat(14), "Ccb", "ab".repeat(14) + "Cc");
      dueLace("ab".repeat(14) + "a", "cB", "ab".repeat(14) + "ac");
      dueLace("ab".repeat(14) + "a", "c9", "ab".repeat(14) + "ac");
      dueLace("c", "a9b9c8A9a", "c" + "a".repeat(9) + "b".repeat(9) + "c".repeat(8) + "AAA");
      dueLace("", "a9b9c9C3", "a".repeat(9) + "b".repeat(9) + "c".repeat(9) + "CCC");
      dueLace("", "b9".repeat(30), "b".repeat(30));
      dueLace("", "c".repeat(60), "c".repeat(30));
      dueLace(full, "a", full);
      dueLace(full, "a9".repeat(30), full);
    });
    d.says("and clears the buffer.", () -> {
      LaceTangles x = typed("a2");
      x.lace();
      Checks.due("append behind lace()", x.append('b'), 1);
      Checks.due("lace() of the new text", x.lace(), 1);
      Checks.dueRow(x, "aab");
      LaceTangles full = Checks.laid("a".repeat(30));
      Checks.type(full, "abc");
      full.lace();
      Checks.due("clearBuffer() behind lace() of none", full.clearBuffer(), 0);
    });
    d.says("Undoable, as one call, also if none is put.", () -> {
      undoableLace("ab", "a3b2C", 6);
      undoableLace("ab".repeat(14), "a3b2C", 2);
      undoableLace("ab".repeat(15), "a3b2C", 0);
    });
    d.says("Returns how many are put.", () -> {
      Checks.due("lace() of one", typed("B").lace(), 1);
      Checks.due("lace() of a9", typed("a9").lace(), 9);
      Checks.due("lace() of a2B2c", typed("a2B2c").lace(), 5);
      Checks.due("lace() of too many", typed("a9b9c9A9").lace(), 30);
      LaceTangles full = Checks.laid("a".repeat(30));
      Checks.type(full, "b");
      Checks.due("lace() without room", full.lace(), 0);
    });
    d.says("Throws `IllegalArgumentException` if the buffer is not a complete tangle as a text (the buffer stays)", () -> {
      for (String text : new String[] {"", "2", "a1", "a22", "?", "abd", "a2b2 c".replace(' ', '!'), "a".repeat(59) + "0",
        "9".repeat(60)}) {
        for (String letters : new String[] {"", "ab", "a".repeat(30)}) {
          Checks.refused(IllegalArgumentException.class, "lace() of " + text + " behind " + letters, x -> {
            Checks.lay(x, letters);
            x.keep();
            Checks.type(x, text);
          }, LaceTangles::lace);
        }
        LaceTangles x = typed(text);
        Checks.answer(x, LaceTangles::lace);
        Checks.due("clearBuffer() behind lace() of " + text, x.clearBuffer(), text.length());
      }
    });
  }

  /** Undone too, the buffer stays empty. */
  private static void undoableLace(String letters, String text, int put) {
    Checks.Setup setup = x -> {
      Checks.few(letters).on(x);
      x.clearBuffer();
    };
    LaceTangles x = Checks.made(setup);
    Checks.type(x, text);
    Checks.due("lace()", x.lace(), put);
    Checks.due("count(7) behind lace()", x.count(7), 2);
    Checks.due("undo() behind lace()", x.undo(), 1);
    Checks.dueRow(x, letters);
    String want = Checks.all(Checks.made(setup));
    String got = Checks.all(x);
    Checks.check("undo() of lace() left " + got + ", due is " + want, got.equals(want));
  }
}
