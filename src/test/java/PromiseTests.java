/** Each promise by itself: ordinary inputs, the edges that the document names, and wrong inputs. */
public final class PromiseTests {
  private interface Call {
    long of();
  }

  private static final int LOW = Integer.MIN_VALUE;
  private static final int HIGH = Integer.MAX_VALUE;

  private static int passed = 0;
  private static int failed = 0;
  private static String promise = "";

  private static void due(String what, long got, long want) {
    check(what + " answered " + got + ", due is " + want, got == want);
  }

  private static void check(String what, boolean fine) {
    if (fine) {
      passed++;
    } else {
      failed++;
      System.out.println(promise + ": " + what);
    }
  }

  /** The call must throw just this, and leave all as it was. */
  private static void refused(LaceTangles x, String what, Class<?> want, Call call) {
    String before = look(x);
    Class<?> got = null;
    try {
      call.of();
    } catch (RuntimeException e) {
      got = e.getClass();
    }
    check(what + " threw " + got + ", due is " + want, got == want);
    check(what + " changed something", look(x).equals(before));
  }

  private static void badArgument(LaceTangles x, String what, Call call) {
    refused(x, what, IllegalArgumentException.class, call);
  }

  private static void badState(LaceTangles x, String what, Call call) {
    refused(x, what, IllegalStateException.class, call);
  }

  private static void badIndex(LaceTangles x, String what, Call call) {
    refused(x, what, IndexOutOfBoundsException.class, call);
  }

  private static String look(LaceTangles x) {
    String same;
    try {
      same = String.valueOf(x.same());
    } catch (IllegalStateException e) {
      same = "no snapshot";
    }
    return x.digest() + " " + row(x) + " " + x.count(2) + " " + x.count(7) + " " + x.firstError() + " " + same;
  }

  /** "aB" is a tangle of the crossings 1 and -2. */
  private static LaceTangles laid(String letters) {
    LaceTangles x = new LaceTangles();
    lay(x, letters);
    return x;
  }

  private static void lay(LaceTangles x, String letters) {
    for (char letter : letters.toCharArray()) {
      x.cross(letter >= 'a' ? letter - 'a' + 1 : 'A' - 1 - letter);
    }
  }

  private static String row(LaceTangles x) {
    StringBuilder letters = new StringBuilder();
    for (int place = 0; place < x.count(0); place++) {
      letters.append("CBA?abc".charAt(x.crossing(place) - 7));
    }
    return letters.toString();
  }

  private static void dueRow(LaceTangles x, String want) {
    check("the crossings are " + row(x) + ", due is " + want, row(x).equals(want));
  }

  private static void type(LaceTangles x, String text) {
    for (char c : text.toCharArray()) {
      x.append(c);
    }
  }

  private static void promise1() {
    LaceTangles x = new LaceTangles();
    due("NONE", LaceTangles.NONE, -1);
    due("count(0)", x.count(0), 0);
    due("count(2)", x.count(2), 0);
    due("count(7)", x.count(7), 0);
    due("clearBuffer()", x.clearBuffer(), 0);
    badState(x, "undo()", x::undo);
    badState(x, "restore()", x::restore);
    badState(x, "same()", x::same);
    x.cross(1);
    due("a second object's count(0)", new LaceTangles().count(0), 0);
    due("count(0)", x.count(0), 1);
  }

  private static void promise2() {
    LaceTangles x = new LaceTangles();
    due("cross(3)", x.cross(3), 1);
    due("cross(-3)", x.cross(-3), 2);
    due("cross(1)", x.cross(1), 3);
    due("cross(-2)", x.cross(-2), 4);
    dueRow(x, "cCaB");
    for (int wrong : new int[] {0, 4, -4, LOW, HIGH}) {
      badArgument(x, "cross(" + wrong + ")", () -> x.cross(wrong));
    }
    due("undo()", x.undo(), 3);
    dueRow(x, "cCa");
    LaceTangles full = laid("a".repeat(29));
    due("the 30th", full.cross(2), 30);
    badState(full, "the 31st", () -> full.cross(2));
    badArgument(full, "a wrong 31st", () -> full.cross(0));
  }

  private static void promise3() {
    LaceTangles x = laid("aC");
    due("open() of C", x.open(), 7);
    due("count(0)", x.count(0), 1);
    due("count(7)", x.count(7), 3);
    due("open() of a", x.open(), 11);
    badState(x, "open() of none", x::open);
    x.undo();
    x.undo();
    dueRow(x, "aC");
    due("open() of c", laid("bc").open(), 13);
  }

  private static void promise4() {
    LaceTangles x = laid("cbBa");
    due("cancel", x.move(0, 1), 2);
    dueRow(x, "ca");
    due("far", x.move(1, 0), 2);
    dueRow(x, "ac");
    due("count(2)", x.count(2), 2);
    due("count(7)", x.count(7), 6);
    x.undo();
    dueRow(x, "ca");
    due("count(2) behind undo", x.count(2), 1);
    for (int[] wrong : new int[][] {{-1, 0}, {3, 0}, {LOW, 0}, {HIGH, 0}, {0, -1}, {1, LOW}, {3, -1}}) {
      badArgument(x, "move(" + wrong[0] + ", " + wrong[1] + ")", () -> x.move(wrong[0], wrong[1]));
    }
    for (int[] wrong : new int[][] {{0, 0}, {2, 0}, {1, 1}, {1, 2}, {0, HIGH}, {1, HIGH}, {2, HIGH - 1}}) {
      badState(x, "move(" + wrong[0] + ", " + wrong[1] + ")", () -> x.move(wrong[0], wrong[1]));
    }
    promise4OfThree();
    LaceTangles end = laid("abcA" + "a");
    due("cancel at the end", end.move(0, 3), 3);
    dueRow(end, "abc");
  }

  private static void promise4OfThree() {
    String[][] threes = {
      {"aba", "bab"}, {"ABA", "BAB"}, {"bab", "aba"}, {"bcb", "cbc"}, {"CBC", "BCB"},
      {"abA", "Bab"}, {"aBA", "BAb"}, {"ABa", "bAB"}, {"Aba", "baB"}, {"cbC", "Bcb"}, {"CBb", null}, {"BcB", null}, {"bCb", null},
      {"aBa", null}, {"AbA", null}, {"bAb", null}, {"aca", null}, {"aaa", null}, {"abc", null},
    };
    for (String[] three : threes) {
      LaceTangles x = laid("c" + three[0] + "C");
      if (three[1] == null) {
        badState(x, "three at c" + three[0] + "C", () -> x.move(2, 1));
      } else {
        due("three", x.move(2, 1), 5);
        dueRow(x, "c" + three[1] + "C");
      }
    }
  }

  private static void promise5() {
    LaceTangles x = laid("ab");
    due("pair(0, 3)", x.pair(0, 3), 4);
    dueRow(x, "cCab");
    due("pair(4, -1)", x.pair(4, -1), 6);
    dueRow(x, "cCabAa");
    due("pair(3, -2)", x.pair(3, -2), 8);
    dueRow(x, "cCaBbbAa");
    due("count(2)", x.count(2), 0);
    for (int[] wrong : new int[][] {{-1, 1}, {9, 1}, {LOW, 1}, {HIGH, 1}, {0, 0}, {0, 4}, {0, -4}, {0, LOW}, {9, 4}}) {
      badArgument(x, "pair(" + wrong[0] + ", " + wrong[1] + ")", () -> x.pair(wrong[0], wrong[1]));
    }
    x.undo();
    dueRow(x, "cCabAa");
    LaceTangles full = laid("a".repeat(28));
    due("pair(28, 2)", full.pair(28, 2), 30);
    badState(full, "pair(0, 1) at 30", () -> full.pair(0, 1));
    full.open();
    badState(full, "pair(29, 1) at 29", () -> full.pair(29, 1));
    badArgument(full, "pair(30, 1) at 29", () -> full.pair(30, 1));
    badArgument(full, "pair(0, 0) at 29", () -> full.pair(0, 0));
  }

  private static void promise6() {
    LaceTangles x = laid("cabBAbAaB");
    due("pull()", x.pull(), 8);
    dueRow(x, "c");
    due("pull() of nothing", x.pull(), 0);
    due("count(7)", x.count(7), 6);
    x.undo();
    dueRow(x, "c");
    x.undo();
    dueRow(x, "cabBAbAaB");
    due("count(2)", x.count(2), 0);
    due("pull() of none", new LaceTangles().pull(), 0);
    due("pull() of aaAAbBa", laid("aaAAbBa").pull(), 6);
    due("pull() of acA", laid("acA").pull(), 0);
    due("pull() of aAa", laid("aAa").pull(), 2);
  }

  private static void promise7() {
    LaceTangles x = laid("abbC");
    due("turn()", x.turn(), 98);
    dueRow(x, "cBBA");
    due("turn() again", x.turn(), 102);
    dueRow(x, "abbC");
    x.undo();
    dueRow(x, "cBBA");
    due("count(2)", x.count(2), 0);
    due("turn() of none", new LaceTangles().turn(), 100);
    due("turn() of 30", laid("a".repeat(30)).turn(), 70);
  }

  private static void promise8() {
    LaceTangles x = laid("cabA");
    due("handle()", x.handle(), 4);
    dueRow(x, "cBab");
    due("count(2)", x.count(2), 1);
    badState(x, "handle() without one", x::handle);
    due("undo()", x.undo(), 4);
    due("count(2) behind undo", x.count(2), 0);
    dueRow(x, "cabA");
    String[][] handles = {
      {"aBA", "BAb"}, {"Aba", "baB"}, {"ABa", "bAB"}, {"acA", "c"}, {"aA", ""}, {"bcB", "Cbc"},
      {"cBAC", null}, {"caaC", "aa"}, {"abcbA", "BabcBab"}, {"abAcC", "BabcC"}, {"bacB", null},
      {"acbCA", "cBabC"}, {"baB", null}, {"bcacB", null}, {"abab", null}, {"aBcBA", "BAbcBAb"}, {"bbabA", "bbBab"},
    };
    for (String[] pair : handles) {
      LaceTangles y = laid(pair[0]);
      if (pair[1] == null) {
        badState(y, "handle() of " + pair[0], y::handle);
      } else {
        due("handle() of " + pair[0], y.handle(), pair[1].length());
        dueRow(y, pair[1]);
      }
    }
    LaceTangles fits = laid("abb" + "A" + "c".repeat(24));
    due("handle() to 30", fits.handle(), 30);
    LaceTangles fitsBehind = laid("b".repeat(24) + "abbA");
    due("handle() to 30 behind others", fitsBehind.handle(), 30);
    LaceTangles full = laid("abb" + "A" + "c".repeat(25));
    badState(full, "handle() to 31", full::handle);
    LaceTangles none = new LaceTangles();
    badState(none, "handle() of none", none::handle);
  }

  private static void promise9() {
    LaceTangles x = new LaceTangles();
    due("append(33)", x.append(33), 1);
    due("append(126)", x.append(126), 2);
    for (int wrong : new int[] {32, 127, 0, -1, LOW, HIGH, 65536 + 97}) {
      badArgument(x, "append(" + wrong + ")", () -> x.append(wrong));
    }
    due("count(7)", x.count(7), 0);
    type(x, "a".repeat(57));
    due("the 60th", x.append('b'), 60);
    badState(x, "the 61st", () -> x.append('b'));
    badArgument(x, "a wrong 61st", () -> x.append(32));
    LaceTangles one = new LaceTangles();
    LaceTangles other = new LaceTangles();
    one.append('a');
    other.append('b');
    check("digest tells the characters apart", one.digest() != other.digest());
  }

  private static void promise10() {
    LaceTangles x = new LaceTangles();
    type(x, "a2x");
    due("clearBuffer()", x.clearBuffer(), 3);
    due("clearBuffer() again", x.clearBuffer(), 0);
    due("append behind it", x.append('a'), 1);
    due("count(7)", x.count(7), 0);
    due("firstError()", x.firstError(), 1);
  }

  private static void promise11() {
    Object[][] texts = {
      {"", 0}, {"a", 1}, {"a2", 2}, {"a9b", 3}, {"a1", 1}, {"a0", 1}, {"a22", 2}, {"2", 0}, {"aB3cC", 5}, {"d", 0},
      {"abD", 2}, {"a:", 1}, {"a2@", 2}, {"`", 0}, {"a3ab2", 5}, {"x2x", 0}, {"a2bb!a", 4},
    };
    for (Object[] text : texts) {
      LaceTangles x = new LaceTangles();
      type(x, (String) text[0]);
      due("firstError() of " + text[0], x.firstError(), (Integer) text[1]);
      due("clearBuffer() behind it", x.clearBuffer(), ((String) text[0]).length());
    }
    LaceTangles longer = new LaceTangles();
    type(longer, "a9".repeat(30));
    due("firstError() of more crossings than there is room for", longer.firstError(), 60);
  }

  private static void promise12() {
    LaceTangles x = laid("c");
    type(x, "a3Bb2C");
    due("lace()", x.lace(), 7);
    dueRow(x, "caaaBbbC");
    due("clearBuffer()", x.clearBuffer(), 0);
    due("count(7)", x.count(7), 2);
    due("undo()", x.undo(), 1);
    dueRow(x, "c");
    due("clearBuffer() behind undo", x.clearBuffer(), 0);
    badArgument(x, "lace() of an empty buffer", x::lace);
    type(x, "a2b1");
    badArgument(x, "lace() of an error", x::lace);
    due("firstError()", x.firstError(), 3);
    due("clearBuffer()", x.clearBuffer(), 4);
    type(x, "a9b9c8A9a");
    due("lace() up to 30", x.lace(), 29);
    dueRow(x, "c" + "a".repeat(9) + "b".repeat(9) + "c".repeat(8) + "AAA");
    type(x, "a");
    due("lace() of none", x.lace(), 0);
    due("count(7)", x.count(7), 3);
    due("clearBuffer()", x.clearBuffer(), 0);
    x.undo();
    due("count(0)", x.count(0), 30);
    x.undo();
    dueRow(x, "c");
    type(x, "ABCabc");
    due("lace()", x.lace(), 6);
    dueRow(x, "cABCabc");
    LaceTangles stale = new LaceTangles();
    type(stale, "a3");
    stale.clearBuffer();
    type(stale, "a");
    due("lace() without the figure that was cleared", stale.lace(), 1);
  }

  private static void promise13() {
    LaceTangles x = laid("abcabc" + "ab");
    due("count(7)", x.count(7), 6);
    type(x, "a");
    x.keep();
    for (int saved = 5; saved >= 0; saved--) {
      due("undo()", x.undo(), saved);
      due("count(0)", x.count(0), 2 + saved);
    }
    badState(x, "undo() of the dropped ones", x::undo);
    dueRow(x, "ab");
    due("the buffer stays", x.clearBuffer(), 1);
    due("the snapshot stays", x.restore(), 8);
    due("restore() is undoable", x.undo(), 0);
    dueRow(x, "ab");
    x.cross(3);
    x.cross(-3);
    x.move(0, 2);
    due("count(2)", x.count(2), 1);
    due("undo() of move", x.undo(), 2);
    due("count(2) behind undo", x.count(2), 0);
    dueRow(x, "abcC");
  }

  private static void promise14() {
    LaceTangles x = laid("ab");
    due("keep()", x.keep(), 2);
    due("count(7)", x.count(7), 2);
    x.cross(3);
    due("keep() of more", x.keep(), 3);
    x.open();
    x.open();
    x.restore();
    dueRow(x, "abc");
    due("keep() of none", new LaceTangles().keep(), 0);
  }

  private static void promise15() {
    LaceTangles x = new LaceTangles();
    badState(x, "restore() without a snapshot", x::restore);
    x.keep();
    lay(x, "aAb");
    x.move(0, 0);
    due("restore() of none", x.restore(), 0);
    due("count(2) of the snapshot", x.count(2), 0);
    due("count(7)", x.count(7), 5);
    due("undo()", x.undo(), 4);
    dueRow(x, "b");
    due("count(2)", x.count(2), 1);
    due("keep()", x.keep(), 1);
    x.open();
    x.undo();
    x.undo();
    due("count(2) before the move", x.count(2), 0);
    type(x, "a");
    due("restore()", x.restore(), 1);
    due("count(2) of the snapshot", x.count(2), 1);
    due("restore() again", x.restore(), 1);
    due("the buffer stays", x.clearBuffer(), 1);
  }

  private static void promise16() {
    LaceTangles x = laid("abcABC");
    int[] want = {11, 12, 13, 9, 8, 7, -1, -1};
    for (int place = 0; place < want.length; place++) {
      due("crossing(" + place + ")", x.crossing(place), want[place]);
    }
    due("crossing(29)", x.crossing(29), -1);
    due("crossing(30)", x.crossing(30), -1);
    due("crossing(HIGH)", x.crossing(HIGH), -1);
    badArgument(x, "crossing(-1)", () -> x.crossing(-1));
    badArgument(x, "crossing(LOW)", () -> x.crossing(LOW));
    x.open();
    due("crossing(5) behind open()", x.crossing(5), -1);
  }

  private static void promise17() {
    LaceTangles x = laid("aBc");
    int[][] want = {{0, 1, 2, 3}, {1, 0, 2, 3}, {1, 2, 0, 3}, {1, 2, 3, 0}};
    for (int many = 0; many <= 3; many++) {
      for (int position = 0; position < 4; position++) {
        due("lies(" + many + ", " + position + ")", x.lies(many, position), want[many][position]);
      }
    }
    for (int wrong : new int[] {-1, 4, LOW, HIGH}) {
      badIndex(x, "lies(0, " + wrong + ")", () -> x.lies(0, wrong));
      badIndex(x, "lies(9, " + wrong + ")", () -> x.lies(9, wrong));
      badArgument(x, "lies(" + wrong + ", 0)", () -> x.lies(wrong, 0));
    }
  }

  private static void promise18() {
    LaceTangles x = laid("aabCCC");
    int[][] want = {{100, 102, 100, 100}, {102, 100, 101, 97}, {100, 101, 100, 100}, {100, 97, 100, 100}};
    for (int lace = 0; lace < 4; lace++) {
      for (int other = 0; other < 4; other++) {
        due("winding(" + lace + ", " + other + ")", x.winding(lace, other), want[lace][other]);
      }
    }
    for (int wrong : new int[] {-1, 4, LOW, HIGH}) {
      badIndex(x, "winding(0, " + wrong + ")", () -> x.winding(0, wrong));
      badIndex(x, "winding(" + wrong + ", 0)", () -> x.winding(wrong, 0));
    }
    due("winding of 30", laid("A".repeat(30)).winding(1, 0), 70);
  }

  private static void promise19And20() {
    dueMeasure("", new int[][] {{1, 0, 0, 0}, {0, 1, 0, 0}, {0, 0, 1, 0}, {0, 0, 0, 1}});
    dueMeasure("a", new int[][] {{10006, 2, 0, 0}, {1, 0, 0, 0}, {0, 0, 1, 0}, {0, 0, 0, 1}});
    dueMeasure("B", new int[][] {{1, 0, 0, 0}, {0, 0, 1, 0}, {0, 5004, 5004, 0}, {0, 0, 0, 1}});
    dueMeasure("c", new int[][] {{1, 0, 0, 0}, {0, 1, 0, 0}, {0, 0, 10006, 2}, {0, 0, 1, 0}});
    dueMeasure("aA", new int[][] {{1, 0, 0, 0}, {0, 1, 0, 0}, {0, 0, 1, 0}, {0, 0, 0, 1}});
    dueMeasure("ab", new int[][] {{10006, 10005, 4, 0}, {1, 0, 0, 0}, {0, 1, 0, 0}, {0, 0, 0, 1}});
    dueMeasure("ba", new int[][] {{10006, 2, 0, 0}, {10006, 0, 2, 0}, {1, 0, 0, 0}, {0, 0, 0, 1}});
    dueMeasure("aaaa", new int[][] {{11, 9997, 0, 0}, {10002, 6, 0, 0}, {0, 0, 1, 0}, {0, 0, 0, 1}});
    LaceTangles x = laid("abCab");
    for (int wrong : new int[] {-1, 4, LOW, HIGH}) {
      badIndex(x, "measure(0, " + wrong + ")", () -> x.measure(0, wrong));
      badIndex(x, "measure(" + wrong + ", 0)", () -> x.measure(wrong, 0));
      badIndex(x, "halved(0, " + wrong + ")", () -> x.halved(0, wrong));
      badIndex(x, "halved(" + wrong + ", 0)", () -> x.halved(wrong, 0));
    }
    LaceTangles full = laid("aBcAbCaBcAbCaBcaaBBccAABBCCabc");
    for (int cell = 0; cell < 16; cell++) {
      due("halved of 30", full.halved(cell / 4, cell % 4), full.measure(cell / 4, cell % 4));
    }
    LaceTangles kept = laid("cabaC");
    int before = kept.measure(0, 2);
    kept.move(2, 1);
    due("measure behind a move", kept.measure(0, 2), before);
  }

  private static void dueMeasure(String letters, int[][] want) {
    LaceTangles x = laid(letters);
    for (int row = 0; row < 4; row++) {
      for (int column = 0; column < 4; column++) {
        due("measure of " + letters, x.measure(row, column), want[row][column]);
        due("halved of " + letters, x.halved(row, column), want[row][column]);
      }
    }
  }

  private static void promise21() {
    dueCounts(new LaceTangles(), 0, 100, 0, 0, 0, -1, -1, 0);
    dueCounts(laid("abCA"), 4, 100, 0, 2, 14, 0, 3, 4);
    dueCounts(laid("cab"), 3, 103, 0, 3, 14, -1, -1, 3);
    dueCounts(laid("cc"), 2, 102, 0, 2, 8, -1, -1, 2);
    dueCounts(laid("baBAAbcA"), 8, 100, 0, 4, 14, 1, 3, 6);
    LaceTangles x = laid("abAcC");
    x.handle();
    x.move(0, 3);
    x.pull();
    dueCounts(x, 3, 101, 2, 2, 6, -1, -1, 6);
    for (int wrong : new int[] {-1, 8, LOW, HIGH}) {
      badArgument(x, "count(" + wrong + ")", () -> x.count(wrong));
    }
  }

  private static void dueCounts(LaceTangles x, int... want) {
    for (int what = 0; what < 8; what++) {
      due("count(" + what + ") of " + row(x), x.count(what), want[what]);
    }
  }

  private static void promise22() {
    LaceTangles x = laid("aAacabaBab");
    int[][] want = {
      {0, 0, 2, 2, 2, 2, 2, 2, 2, 1}, {2, 2, 0, 0, 2, 2, 2, 2, 2, 1}, {2, 2, 2, 2, 0, 0, 3, 0, 1, 1},
    };
    for (int move = 0; move < 3; move++) {
      for (int place = 0; place < 10; place++) {
        due("whyNot(" + move + ", " + place + ")", x.whyNot(move, place), want[move][place]);
      }
      int last = move;
      due("whyNot at 10", x.whyNot(move, 10), 1);
      due("whyNot at HIGH", x.whyNot(move, HIGH), 1);
      badArgument(x, "whyNot(.., -1)", () -> x.whyNot(last, -1));
      badArgument(x, "whyNot(.., LOW)", () -> x.whyNot(last, LOW));
    }
    due("whyNot(0, 0) of aa", laid("aa").whyNot(0, 0), 3);
    due("whyNot(0, 0) of a", laid("a").whyNot(0, 0), 1);
    due("whyNot(1, 0) of Ca", laid("Ca").whyNot(1, 0), 0);
    due("whyNot(2, 0) of ab", laid("ab").whyNot(2, 0), 1);
    due("whyNot(2, 0) of aca", laid("aca").whyNot(2, 0), 2);
    due("whyNot(2, 0) of abc", laid("abc").whyNot(2, 0), 2);
    for (int wrong : new int[] {-1, 3, LOW, HIGH}) {
      badArgument(x, "whyNot(" + wrong + ", 0)", () -> x.whyNot(wrong, 0));
    }
  }

  private static void promise23() {
    dueUntangled("", 0, 0, 0, 0);
    dueUntangled("aA", 0, 1, 0, 2);
    dueUntangled("abA", 3, 1, 1, 3);
    dueUntangled("aBA", 3, 1, 2, 3);
    dueUntangled("bb", 2, 0, 1, 2);
    dueUntangled("C", 1, 0, 2, 1);
    dueUntangled("cBA", 3, 0, 2, 3);
    dueUntangled("abaBAB", 0, 4, 0, 6);
    dueUntangled("abbA", 4, 2, 1, 6);
    LaceTangles x = laid("abA");
    x.untangled(0);
    dueRow(x, "abA");
    due("count(7)", x.count(7), 3);
    due("count(2)", x.count(2), 0);
    for (int wrong : new int[] {-1, 4, LOW, HIGH}) {
      badArgument(x, "untangled(" + wrong + ")", () -> x.untangled(wrong));
    }
    // more handles than were found for any other 30 crossings
    dueUntangled("aBaBaBacBaBaBcBAaAaAaAaAaAaAaA", 40, 454, 2, 72);
  }

  private static void dueUntangled(String letters, int... want) {
    LaceTangles x = laid(letters);
    for (int what = 0; what < 4; what++) {
      due("untangled(" + what + ") of " + letters, x.untangled(what), want[what]);
    }
  }

  private static void promise24() {
    LaceTangles x = laid("cabAC");
    int[] want = {13, 8, 11, 12, 7, -1, -1};
    for (int place = 0; place < want.length; place++) {
      due("left(" + place + ")", x.left(place), want[place]);
    }
    due("left(HIGH)", x.left(HIGH), -1);
    badArgument(x, "left(-1)", () -> x.left(-1));
    badArgument(x, "left(LOW)", () -> x.left(LOW));
    due("left(0) of none", laid("aA").left(0), -1);
  }

  private static int[] crossingsOf(String numbers) {
    String[] parts = numbers.split(", ");
    int[] crossings = new int[parts.length];
    for (int i = 0; i < parts.length; i++) {
      crossings[i] = Integer.parseInt(parts[i]);
    }
    return crossings;
  }

  /** same() when the snapshot turned over and the tangle together are these 60 crossings. */
  private static long sameOf(String numbers) {
    int[] both = crossingsOf(numbers);
    LaceTangles x = new LaceTangles();
    for (int place = 29; place >= 0; place--) {
      x.cross(-both[place]);
    }
    x.keep();
    for (int place = 0; place < 30; place++) {
      x.open();
    }
    for (int place = 30; place < 60; place++) {
      x.cross(both[place]);
    }
    return x.same();
  }

  private static void promise25() {
    LaceTangles x = laid("aba");
    badState(x, "same() without a snapshot", x::same);
    x.keep();
    due("same() as the snapshot", x.same(), 1);
    x.move(2, 0);
    due("same() behind a move", x.same(), 1);
    x.cross(1);
    due("same() with one more", x.same(), 0);
    x.cross(-1);
    due("same() with a pair more", x.same(), 1);
    due("count(0)", x.count(0), 5);
    LaceTangles none = new LaceTangles();
    none.keep();
    due("same() of none", none.same(), 1);
    none.cross(2);
    due("same() of one and none", none.same(), 0);
    LaceTangles sign = laid("a");
    sign.keep();
    sign.turn();
    due("same() of a and A", sign.same(), 0);
    due("same() of 600 handles", sameOf("-1, 2, -1, 2, -3, 2, -1, 2, -3, -1, 2, -1, 2, -1, -3, -1, -3, 1, -1, 2, 1, 2, -3, -1,"
        + " 2, 3, 3, 1, -2, -2, -3, -1, -1, 1, -1, 1, -2, 1, 2, 1, -1, 1, -1, 1, -1, 1, -1, 1, 3, 1, -1, 1, -1, 1, -1, 2,"
        + " -1, 2, -3, -2"), 0);
    due("same() of 601 handles", sameOf("-1, 2, 2, -1, -1, 2, -3, 1, -3, -1, -2, 2, -1, -1, 2, -1, 2, 2, 1, -1, -1, 2, 2, -3,"
        + " 2, 1, -2, 1, -2, -2, -3, 3, -2, -2, -1, 1, -1, 3, -1, 1, -2, 1, -1, 3, 1, 3, -1, -3, 3, 2, 1, 1, -1, 3, -1, 1,"
        + " 1, -3, -1, -1"), -1);
    due("same() of 2074 handles", sameOf("-1, 2, -1, 2, -1, 2, -1, 2, -3, -1, 2, -1, 2, -1, 2, -1, -3, 2, -1, 2, -1, 2, -3, -1,"
        + " 2, 2, 1, 1, -2, -2, -3, -1, 2, 1, -1, 1, -1, 1, -1, 1, -1, 1, -1, 1, -1, 1, -1, 1, -1, 1, -1, 1, -1, 1, -1, 1,"
        + " -1, 1, -1, 1"), -1);
  }

  private static void promise26() {
    LaceTangles x = laid("aAacabab");
    due("possible(0)", x.possible(0), 2);
    due("possible(1)", x.possible(1), 2);
    due("possible(2)", x.possible(2), 2);
    for (int move = 0; move < 3; move++) {
      due("possible of none", new LaceTangles().possible(move), 0);
    }
    for (int wrong : new int[] {-1, 3, LOW, HIGH}) {
      badArgument(x, "possible(" + wrong + ")", () -> x.possible(wrong));
    }
  }

  private static void promise27() {
    due("bestMove() of none", new LaceTangles().bestMove(), -1);
    due("bestMove() of acA", laid("acA").bestMove(), 31);
    due("bestMove() of bacA", laid("bacA").bestMove(), 32);
    due("bestMove() of abaB", laid("abaB").bestMove(), 62);
    due("bestMove() of cabaB", laid("cabaB").bestMove(), 63);
    due("bestMove() of acac", laid("acac").bestMove(), -1);
    due("bestMove() of aAca", laid("aAca").bestMove(), 33);
    due("bestMove() of a pair lost", laid("acCA").bestMove(), -1);
    due("bestMove() of a pair for a pair", laid("cCAab").bestMove(), -1);
    due("bestMove() of aAabAB", laid("aAabAB").bestMove(), 65);
    due("bestMove() of both", laid("abaBcbacA").bestMove(), 37);
    LaceTangles x = laid("acA");
    x.bestMove();
    dueRow(x, "acA");
    due("count(2)", x.count(2), 0);
  }

  private static void promise28() {
    dueShare("", 0.0);
    dueShare("ab", 0.0);
    dueShare("aA", 1.0);
    dueShare("abBc", 0.5);
    dueShare("aAb", 2.0 / 3.0);
    dueShare("bacCA", 4.0 / 5.0);
    LaceTangles x = laid("aA");
    x.slack();
    dueRow(x, "aA");
    due("count(7)", x.count(7), 2);
  }

  private static void dueShare(String letters, double want) {
    double got = laid(letters).slack();
    due("slack() of " + letters, Double.doubleToRawLongBits(got), Double.doubleToRawLongBits(want));
  }

  private static void promise29() {
    String[] tangles = {"", "a", "aA", "abBA", "aAbCc", "cabAC", "baBAAbcA", "aBcAbCaBcAbCaBcaaBBccAABBCCabc"};
    for (String letters : tangles) {
      LaceTangles x = laid(letters);
      due("digest() of " + letters, x.digest(), digestOf(x, ""));
      type(x, "a2~");
      due("digest() of a buffer", x.digest(), digestOf(x, "a2~"));
      due("digest() again", x.digest(), digestOf(x, "a2~"));
    }
    LaceTangles x = laid("aAb");
    long before = x.digest();
    x.move(0, 0);
    check("digest() tells another tangle", x.digest() != before);
    x.undo();
    check("digest() tells the saved states", x.digest() == before);
    x.keep();
    check("digest() leaves the snapshot out", x.digest() == before);
  }

  private static long hash = 0;

  private static void mix(long value) {
    hash = 31 * hash + value;
  }

  /** The list of the document, out of the other calls. */
  private static long digestOf(LaceTangles x, String buffer) {
    hash = 3673;
    for (int what = 0; what <= 7; what++) {
      mix(x.count(what));
    }
    for (int place = 0; place < x.count(0); place++) {
      mix(x.crossing(place));
    }
    for (int position = 0; position < 4; position++) {
      mix(x.lies(x.count(0), position));
    }
    for (int lace = 0; lace < 4; lace++) {
      for (int other = lace + 1; other < 4; other++) {
        mix(x.winding(lace, other));
      }
    }
    for (int cell = 0; cell < 16; cell++) {
      mix(x.measure(cell / 4, cell % 4));
      mix(x.halved(cell / 4, cell % 4));
    }
    for (int what = 0; what <= 3; what++) {
      mix(x.untangled(what));
    }
    for (int place = 0; place <= 5; place++) {
      mix(x.left(place));
    }
    for (int move = 0; move <= 2; move++) {
      mix(x.possible(move));
    }
    mix(x.bestMove());
    mix(Double.doubleToLongBits(x.slack()));
    mix(buffer.length());
    for (char c : buffer.toCharArray()) {
      mix(c);
    }
    return hash;
  }

  private static void run(String name, Runnable tests) {
    promise = name;
    try {
      tests.run();
    } catch (RuntimeException e) {
      check("threw " + e + " out of turn", false);
    }
  }

  public static void main(String[] args) {
    run("promise 1, a new object", PromiseTests::promise1);
    run("promise 2, cross", PromiseTests::promise2);
    run("promise 3, open", PromiseTests::promise3);
    run("promise 4, move", PromiseTests::promise4);
    run("promise 5, pair", PromiseTests::promise5);
    run("promise 6, pull", PromiseTests::promise6);
    run("promise 7, turn", PromiseTests::promise7);
    run("promise 8, handle", PromiseTests::promise8);
    run("promise 9, append", PromiseTests::promise9);
    run("promise 10, clearBuffer", PromiseTests::promise10);
    run("promise 11, firstError", PromiseTests::promise11);
    run("promise 12, lace", PromiseTests::promise12);
    run("promise 13, undo", PromiseTests::promise13);
    run("promise 14, keep", PromiseTests::promise14);
    run("promise 15, restore", PromiseTests::promise15);
    run("promise 16, crossing", PromiseTests::promise16);
    run("promise 17, lies", PromiseTests::promise17);
    run("promise 18, winding", PromiseTests::promise18);
    run("promises 19 and 20, measure and halved", PromiseTests::promise19And20);
    run("promise 21, count", PromiseTests::promise21);
    run("promise 22, whyNot", PromiseTests::promise22);
    run("promise 23, untangled", PromiseTests::promise23);
    run("promise 24, left", PromiseTests::promise24);
    run("promise 25, same", PromiseTests::promise25);
    run("promise 26, possible", PromiseTests::promise26);
    run("promise 27, bestMove", PromiseTests::promise27);
    run("promise 28, slack", PromiseTests::promise28);
    run("promise 29, digest", PromiseTests::promise29);
    System.out.println("PromiseTests: " + passed + " passed, " + failed + " failed");
    if (failed != 0) {
      System.exit(1);
    }
  }
}
