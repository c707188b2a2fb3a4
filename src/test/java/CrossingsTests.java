/** Promises 1 to 8: a new object, and the calls that change the crossings. */
final class CrossingsTests {
  private static final String THIRTY = "a".repeat(30);
  private static final String TWENTY_NINE = "a".repeat(29);

  private CrossingsTests() {}

  static void say(Document d) {
    newObject(d);
    cross(d);
    open(d);
    move(d);
    pair(d);
    pull(d);
    turn(d);
    handle(d);
  }

  private static void newObject(Document d) {
    d.at("Promise 1: A new object");
    d.says("Creates laces without crossings", () -> {
      LaceTangles x = new LaceTangles();
      Checks.dueCounts(x, 0, 100, 0, 0, 0, -1, -1, 0);
      Checks.due("crossing(0)", x.crossing(0), -1);
      Checks.badState("", "open()", LaceTangles::open);
      Checks.refused(IllegalStateException.class, "undo()", y -> {}, LaceTangles::undo);
      x.cross(1);
      Checks.due("count(0) of another new one", new LaceTangles().count(0), 0);
      Checks.due("count(0) of the first one", x.count(0), 1);
    });
    d.says("and a snapshot", () -> {
      Checks.refused(IllegalStateException.class, "restore()", y -> {}, LaceTangles::restore);
      Checks.refused(IllegalStateException.class, "same()", y -> {}, LaceTangles::same);
      new LaceTangles().keep();
      Checks.refused(IllegalStateException.class, "same() of another new one", y -> {}, LaceTangles::same);
    });
    d.says("with an empty buffer.", () -> {
      Checks.due("clearBuffer()", new LaceTangles().clearBuffer(), 0);
      Checks.due("firstError()", new LaceTangles().firstError(), 0);
      Checks.due("append(97)", new LaceTangles().append('a'), 1);
      Checks.due("clearBuffer() of another new one", new LaceTangles().clearBuffer(), 0);
    });
  }

  private static void cross(Document d) {
    d.at("Promise 2: cross");
    d.says("Puts a crossing behind all others.", () -> {
      LaceTangles x = new LaceTangles();
      x.cross(3);
      Checks.dueRow(x, "c");
      x.cross(-1);
      Checks.dueRow(x, "cA");
      x.cross(1);
      Checks.dueRow(x, "cAa");
    });
    d.says("Undoable.", () -> {
      Checks.undoable("cross(-3)", Checks.few("ab"), x -> x.cross(-3));
      Checks.undoable("the first cross(1)", Checks.few(""), x -> x.cross(1));
      Checks.undoable("the 30th cross(2)", Checks.few(TWENTY_NINE), x -> x.cross(2));
    });
    d.says("`crossing`: -3 to 3, not 0", () -> {
      for (int crossing : Checks.CROSSINGS) {
        LaceTangles x = new LaceTangles();
        x.cross(crossing);
        Checks.due("crossing(0) behind cross(" + crossing + ")", x.crossing(0), crossing + 10);
      }
      for (int wrong : new int[] {-4, 0, 4}) {
        Checks.badArgument("ab", "cross(" + wrong + ")", x -> x.cross(wrong));
      }
    });
    d.says("Returns how many crossings there are then.", () -> {
      LaceTangles x = new LaceTangles();
      for (int many = 1; many <= 30; many++) {
        Checks.due("cross(-2)", x.cross(-2), many);
      }
    });
    d.says("Throws `IllegalArgumentException` if there is no such crossing", () -> {
      for (int wrong : new int[] {0, 4, -4, 7, 97, Checks.LOW, Checks.HIGH}) {
        Checks.badArgument("", "cross(" + wrong + ")", x -> x.cross(wrong));
        Checks.badArgument(THIRTY, "cross(" + wrong + "), full too,", x -> x.cross(wrong));
      }
    });
    d.says("Throws `IllegalStateException` if there are 30", () -> {
      LaceTangles x = Checks.laid(TWENTY_NINE);
      Checks.due("the 30th", x.cross(2), 30);
      for (int crossing : Checks.CROSSINGS) {
        Checks.badState(THIRTY, "cross(" + crossing + ")", y -> y.cross(crossing));
      }
      x.open();
      Checks.due("the 30th again", x.cross(3), 30);
    });
  }

  private static void open(Document d) {
    d.at("Promise 3: open");
    d.says("Takes the last crossing off.", () -> {
      LaceTangles x = Checks.laid("abC");
      x.open();
      Checks.dueRow(x, "ab");
      x.open();
      Checks.dueRow(x, "a");
      x.open();
      Checks.dueRow(x, "");
      LaceTangles full = Checks.laid(TWENTY_NINE + "c");
      full.open();
      Checks.dueRow(full, TWENTY_NINE);
    });
    d.says("Undoable.", () -> {
      Checks.undoable("open()", Checks.few("abC"), LaceTangles::open);
      Checks.undoable("open() of the only one", Checks.few("B"), LaceTangles::open);
      Checks.undoable("open() of 30", Checks.few(THIRTY), LaceTangles::open);
    });
    d.says("Returns that crossing, and 10 more.", () -> {
      for (int crossing : Checks.CROSSINGS) {
        LaceTangles x = Checks.laid("ab");
        x.cross(crossing);
        Checks.due("open() of " + crossing, x.open(), crossing + 10);
      }
    });
    d.says("Throws `IllegalStateException` if there is none", () -> {
      Checks.badState("", "open()", LaceTangles::open);
      Checks.refused(IllegalStateException.class, "open() of none left", x -> {
        Checks.lay(x, "a");
        x.open();
      }, LaceTangles::open);
      Checks.due("open() of one", Checks.laid("a").open(), 11);
    });
  }

  private static void dueMove(String letters, int move, int place, String want) {
    LaceTangles x = Checks.laid(letters);
    String told = "move(" + move + ", " + place + ") of " + letters;
    Checks.due(told, x.move(move, place), want.length());
    Checks.dueRow(x, want);
    Checks.due("count(2) behind " + told, x.count(2), 1);
  }

  private static void move(Document d) {
    d.at("Promise 4: move");
    d.says("Makes a move.", () -> {
      dueMove("cbBa", 0, 1, "ca");
      dueMove("caCb", 1, 0, "acCb");
      dueMove("cabaC", 2, 1, "cbabC");
    });
    d.says("Undoable.", () -> {
      Checks.undoable("move(0, 1)", Checks.few("cbBa"), x -> x.move(0, 1));
      Checks.undoable("move(1, 0)", Checks.few("Ac"), x -> x.move(1, 0));
      Checks.undoable("move(2, 1)", Checks.few("cabaC"), x -> x.move(2, 1));
    });
    d.says("`move`: 0 to 2", () -> {
      dueMove("aA", 0, 0, "");
      dueMove("aC", 1, 0, "Ca");
      dueMove("aba", 2, 0, "bab");
      for (String letters : new String[] {"aA", "aC", "aba"}) {
        Checks.badArgument(letters, "move(-1, 0)", x -> x.move(-1, 0));
        Checks.badArgument(letters, "move(3, 0)", x -> x.move(3, 0));
      }
    });
    d.says("`place`: 0 or more", () -> {
      dueMove("aAbcab", 0, 0, "bcab");
      dueMove("a".repeat(28) + "bB", 0, 28, "a".repeat(28));
      dueMove("a".repeat(28) + "Ca", 1, 28, "a".repeat(28) + "aC");
      dueMove("a".repeat(27) + "cbc", 2, 27, "a".repeat(27) + "bcb");
      for (int move = 0; move <= 2; move++) {
        int it = move;
        Checks.badArgument("aAc", "move(" + move + ", -1)", x -> x.move(it, -1));
      }
    });
    d.says("Returns how many crossings there are then.", () -> {
      Checks.due("move(0, 0) of two", Checks.laid("cC").move(0, 0), 0);
      Checks.due("move(0, 5) of 30", Checks.laid("abcabCcbabcabcabcabcabcabcabca").move(0, 5), 28);
      Checks.due("move(1, 0) of two", Checks.laid("ca").move(1, 0), 2);
      Checks.due("move(2, 0) of 30", Checks.laid("aba" + "c".repeat(27)).move(2, 0), 30);
    });
    d.says("Throws `IllegalArgumentException` if there is no such move, or place is below 0", () -> {
      int[][] wrongs = {{-1, 0}, {3, 0}, {Checks.LOW, 0}, {Checks.HIGH, 0}, {0, -1}, {1, -1}, {2, -1},
        {0, Checks.LOW}, {1, Checks.LOW}, {2, Checks.LOW}, {3, -1}, {-1, 9}, {3, Checks.HIGH}};
      for (int[] wrong : wrongs) {
        String told = "move(" + wrong[0] + ", " + wrong[1] + ")";
        Checks.badArgument("aAca", told, x -> x.move(wrong[0], wrong[1]));
        Checks.badArgument("", told + " where none is possible", x -> x.move(wrong[0], wrong[1]));
      }
    });
    d.says("Throws `IllegalStateException` if it is not possible", CrossingsTests::movesNotPossible);
  }

  private static void movesNotPossible() {
    for (int move = 0; move <= 2; move++) {
      int it = move;
      for (int place : new int[] {0, 1, 2, 30, Checks.HIGH - 2, Checks.HIGH - 1, Checks.HIGH}) {
        Checks.badState("", "move(" + move + ", " + place + ")", x -> x.move(it, place));
      }
      Checks.badState("bb", "move(" + move + ", 0)", x -> x.move(it, 0));
      Checks.badState("aAcaba", "move(" + move + ", 5)", x -> x.move(it, 5));
      Checks.badState("aAcaba", "move(" + move + ", 6)", x -> x.move(it, 6));
    }
    Checks.badState("ac", "move(2, 0)", x -> x.move(2, 0));
    Checks.badState("aa", "move(0, 0)", x -> x.move(0, 0));
    Checks.badState("aB", "move(0, 0)", x -> x.move(0, 0));
    Checks.badState("ab", "move(1, 0)", x -> x.move(1, 0));
    Checks.badState("aBa", "move(2, 0)", x -> x.move(2, 0));
    Checks.badState("caba", "move(2, 2)", x -> x.move(2, 2));
    Checks.refused(IllegalStateException.class, "a move at crossings that were taken off", x -> {
      Checks.lay(x, "aA");
      x.open();
    }, x -> x.move(0, 0));
  }

  private static void duePair(String letters, int place, int crossing, String want) {
    LaceTangles x = Checks.laid(letters);
    Checks.due("pair(" + place + ", " + crossing + ") of " + letters, x.pair(place, crossing), want.length());
    Checks.dueRow(x, want);
  }

  private static void pair(Document d) {
    d.at("Promise 5: pair");
    d.says("Puts a pair in that cancels: a crossing, and then one with the same rank and the other sign.", () -> {
      for (int crossing : Checks.CROSSINGS) {
        duePair("ab", 1, crossing, "a" + Checks.letterOf(crossing) + Checks.letterOf(-crossing) + "b");
      }
    });
    d.says("Undoable.", () -> {
      Checks.undoable("pair(1, -3)", Checks.few("aB"), x -> x.pair(1, -3));
      Checks.undoable("pair(0, 1) of none", Checks.few(""), x -> x.pair(0, 1));
      Checks.undoable("pair(28, 2) of 28", Checks.few("c".repeat(28)), x -> x.pair(28, 2));
    });
    d.says("`place`: 0 to how many crossings there are: the first one of both comes there, and all from there on behind"
        + " both", () -> {
          duePair("aBc", 0, 3, "cCaBc");
          duePair("aBc", 1, 3, "acCBc");
          duePair("aBc", 2, 3, "aBcCc");
          duePair("aBc", 3, 3, "aBccC");
          duePair("", 0, -2, "Bb");
          duePair("abcABCabcABCabcABCabcABCabcA", 0, 2, "bBabcABCabcABCabcABCabcABCabcA");
          Checks.badArgument("aBc", "pair(-1, 3)", x -> x.pair(-1, 3));
          Checks.badArgument("aBc", "pair(4, 3)", x -> x.pair(4, 3));
        });
    d.says("`crossing`: the first one of both, -3 to 3, not 0", () -> {
      duePair("", 0, 3, "cC");
      duePair("", 0, -3, "Cc");
      for (int wrong : new int[] {-4, 0, 4}) {
        Checks.badArgument("", "pair(0, " + wrong + ")", x -> x.pair(0, wrong));
      }
    });
    d.says("Returns how many crossings there are then.", () -> {
      LaceTangles x = new LaceTangles();
      for (int many = 2; many <= 30; many += 2) {
        Checks.due("pair(0, 1)", x.pair(0, 1), many);
      }
    });
    d.says("Throws `IllegalArgumentException` if place is out of range, or there is no such crossing", () -> {
      int[][] wrongs = {{-1, 1}, {3, 1}, {Checks.LOW, 1}, {Checks.HIGH, 1}, {0, 0}, {0, 4}, {0, -4}, {0, Checks.LOW},
        {2, Checks.HIGH}, {3, 4}};
      for (int[] wrong : wrongs) {
        Checks.badArgument("ab", "pair(" + wrong[0] + ", " + wrong[1] + ")", x -> x.pair(wrong[0], wrong[1]));
      }
      for (String full : new String[] {TWENTY_NINE, THIRTY}) {
        Checks.badArgument(full, "pair(-1, 1), no room too,", x -> x.pair(-1, 1));
        Checks.badArgument(full, "pair(31, 1), no room too,", x -> x.pair(31, 1));
        Checks.badArgument(full, "pair(0, 0), no room too,", x -> x.pair(0, 0));
      }
      Checks.badArgument(TWENTY_NINE, "pair(30, 1), no room too,", x -> x.pair(30, 1));
    });
    d.says("Throws `IllegalStateException` if there would be more than 30", () -> {
      duePair("a".repeat(28), 14, 2, "a".repeat(14) + "bB" + "a".repeat(14));
      for (int place : new int[] {0, 15, 29}) {
        Checks.badState(TWENTY_NINE, "pair(" + place + ", 1)", x -> x.pair(place, 1));
        Checks.badState(THIRTY, "pair(" + (place + 1) + ", -3)", x -> x.pair(place + 1, -3));
      }
    });
  }

  private static void duePull(String letters, String want) {
    LaceTangles x = Checks.laid(letters);
    Checks.due("pull() of " + letters, x.pull(), letters.length() - want.length());
    Checks.dueRow(x, want);
  }

  private static void pull(Document d) {
    d.at("Promise 6: pull");
    d.says("Pulls at the ends: crossings side by side that cancel are gone, until there are no such two any more.", () -> {
      duePull("aA", "");
      duePull("Cc", "");
      duePull("abBA", "");
      duePull("abcCBAc", "c");
      duePull("aaAAbBa", "a");
      duePull("aAa", "a");
      duePull("AaA", "A");
      duePull("cabBAbAaB", "c");
      duePull("acA", "acA");
      duePull("aBAb", "aBAb");
      duePull("aab", "aab");
      duePull("b" + "aA".repeat(14) + "B", "");
      duePull("a".repeat(15) + "A".repeat(15), "");
    });
    d.says("Undoable.", () -> {
      Checks.undoable("pull()", Checks.few("cabBAbAaB"), LaceTangles::pull);
      Checks.undoable("pull() that takes all away", Checks.few("aA"), LaceTangles::pull);
      Checks.undoable("pull() without a pair", Checks.few("acA"), LaceTangles::pull);
      Checks.undoable("pull() of none", Checks.few(""), LaceTangles::pull);
    });
    d.says("Returns how many crossings are gone by it.", () -> {
      Checks.due("pull() of none", new LaceTangles().pull(), 0);
      Checks.due("pull() without a pair", Checks.laid("abc").pull(), 0);
      Checks.due("pull() of one pair", Checks.laid("abBc").pull(), 2);
      Checks.due("pull() of 30", Checks.laid("aA".repeat(15)).pull(), 30);
      LaceTangles x = Checks.laid("abBA");
      Checks.due("pull()", x.pull(), 4);
      Checks.due("pull() again", x.pull(), 0);
    });
  }

  private static void turn(Document d) {
    d.at("Promise 7: turn");
    d.says("Turns the tangle over: its crossings come in the opposite order, each with the other sign", () -> {
      for (String[] turned : new String[][] {{"abbC", "cBBA"}, {"a", "A"}, {"aBc", "CbA"}, {"", ""}, {"aA", "aA"},
        {TWENTY_NINE + "b", "B" + "A".repeat(29)}}) {
        LaceTangles x = Checks.laid(turned[0]);
        x.turn();
        Checks.dueRow(x, turned[1]);
        x.turn();
        Checks.dueRow(x, turned[0]);
      }
    });
    d.says("(so that it would undo the tangle as it was)", () -> {
      LaceTangles x = Checks.laid("aBcbA");
      x.turn();
      Checks.lay(x, "aBcbA");
      Checks.due("untangled(2) of both", x.untangled(2), 0);
      Checks.due("pull() of both", x.pull(), 10);
    });
    d.says("Undoable.", () -> {
      Checks.undoable("turn()", Checks.few("abbC"), LaceTangles::turn);
      Checks.undoable("turn() of none", Checks.few(""), LaceTangles::turn);
      Checks.undoable("turn() that changes nothing", Checks.few("aA"), LaceTangles::turn);
    });
    d.says("Returns the twist then, and 100 more.", () -> {
      Checks.due("turn() of abbC", Checks.laid("abbC").turn(), 98);
      Checks.due("turn() of AB", Checks.laid("AB").turn(), 102);
      Checks.due("turn() of none", new LaceTangles().turn(), 100);
      Checks.due("turn() of aB", Checks.laid("aB").turn(), 100);
      LaceTangles full = Checks.laid("b".repeat(30));
      Checks.due("turn() of 30", full.turn(), 70);
      Checks.due("turn() of 30 again", full.turn(), 130);
    });
  }

  private static void dueHandle(String letters, String want) {
    LaceTangles x = Checks.laid(letters);
    Checks.due("handle() of " + letters, x.handle(), want.length());
    Checks.dueRow(x, want);
    Checks.due("count(2) behind handle() of " + letters, x.count(2), 1);
  }

  private static void handle(Document d) {
    d.at("Promise 8: handle");
    d.says("Undoes the first handle, if the crossings are at most 30 then.", () -> {
      dueHandle("cabA", "cBab");
      dueHandle("aA", "");
      dueHandle("abAcC", "BabcC");
      dueHandle("aBcCA", "aBA");
      dueHandle("abbA" + "c".repeat(24), "BabBab" + "c".repeat(24));
      dueHandle("b".repeat(24) + "abbA", "b".repeat(24) + "BabBab");
      dueHandle("aA" + "c".repeat(28), "c".repeat(28));
      dueHandle("a" + "c".repeat(28) + "A", "c".repeat(28));
      dueHandle("a" + "b".repeat(9) + "ccc" + "A", "Bab".repeat(9) + "ccc");
    });
    d.says("Undoable.", () -> {
      Checks.undoable("handle()", Checks.few("cabA"), LaceTangles::handle);
      Checks.undoable("handle() that leaves none", Checks.few("aA"), LaceTangles::handle);
      Checks.undoable("handle() to 30", Checks.few("abbA" + "c".repeat(24)), LaceTangles::handle);
    });
    d.says("Returns how many crossings there are then.", () -> {
      Checks.due("handle() of aA", Checks.laid("aA").handle(), 0);
      Checks.due("handle() of abA", Checks.laid("abA").handle(), 3);
      Checks.due("handle() of acA", Checks.laid("acA").handle(), 1);
      Checks.due("handle() of abbbA", Checks.laid("abbbA").handle(), 9);
    });
    d.says("Throws `IllegalStateException` if there is no handle,", () -> {
      for (String letters : new String[] {"", "a", "ab", "aa", "baB", "cbC", "abab", "cBAC", THIRTY}) {
        Checks.badState(letters, "handle()", LaceTangles::handle);
      }
    });
    d.says("or there would be more than 30", () -> {
      dueHandle("a" + "b".repeat(9) + "A" + "c", "Bab".repeat(9) + "c");
      dueHandle("a" + "b".repeat(9) + "A" + "ccc", "Bab".repeat(9) + "ccc");
      Checks.badState("a" + "b".repeat(9) + "A" + "cccc", "handle() to 31", LaceTangles::handle);
      Checks.badState("a" + "cc" + "b".repeat(9) + "cc" + "A", "handle() to 31", LaceTangles::handle);
      Checks.badState("a" + "b".repeat(10) + "A" + "c", "handle() to 31", LaceTangles::handle);
      Checks.badState("c" + "a" + "b".repeat(27) + "A", "handle() to 82", LaceTangles::handle);
    });
  }
}
