/** Promises 16 to 22: the looks, which change nothing. */
final class LooksTests {
  private static final int[] NOT_FOUR = {-1, 4, Checks.LOW, Checks.HIGH};

  private LooksTests() {}

  static void say(Document d) {
    crossing(d);
    lies(d);
    winding(d);
    measure(d);
    halved(d);
    count(d);
    whyNot(d);
  }

  private static void crossing(Document d) {
    d.at("Promise 16: crossing");
    d.says("Returns a crossing.", () -> {
      LaceTangles x = Checks.laid("cA");
      Checks.due("crossing(0)", x.crossing(0), 13);
      Checks.due("crossing(1)", x.crossing(1), 9);
      Checks.changesNothing("crossing(0)", "cA", y -> y.crossing(0));
    });
    d.says("`place`: 0 or more", () -> {
      LaceTangles full = Checks.laid("B" + "a".repeat(28) + "c");
      Checks.due("crossing(0)", full.crossing(0), 8);
      Checks.due("crossing(1)", full.crossing(1), 11);
      Checks.due("crossing(29)", full.crossing(29), 13);
      Checks.badArgument("ab", "crossing(-1)", x -> x.crossing(-1));
    });
    d.says("Returns the crossing, and 10 more;", () -> {
      LaceTangles x = Checks.laid("abcABC");
      int[] want = {11, 12, 13, 9, 8, 7};
      for (int place = 0; place < want.length; place++) {
        Checks.due("crossing(" + place + ")", x.crossing(place), want[place]);
      }
    });
    d.says("NONE if there are not so many.", () -> {
      LaceTangles x = Checks.laid("abc");
      for (int place : new int[] {3, 4, 29, 30, 31, Checks.HIGH}) {
        Checks.due("crossing(" + place + ") of three", x.crossing(place), -1);
        Checks.due("crossing(" + place + ") of none", new LaceTangles().crossing(place), -1);
      }
      x.open();
      Checks.due("crossing(2) behind open()", x.crossing(2), -1);
      LaceTangles full = Checks.laid("a".repeat(30));
      Checks.due("crossing(30) of 30", full.crossing(30), -1);
      Checks.due("crossing(HIGH) of 30", full.crossing(Checks.HIGH), -1);
    });
    d.says("Throws `IllegalArgumentException` if place is below 0", () -> {
      for (int wrong : new int[] {-1, -2, Checks.LOW}) {
        Checks.badArgument("", "crossing(" + wrong + ")", x -> x.crossing(wrong));
        Checks.badArgument("abc", "crossing(" + wrong + ")", x -> x.crossing(wrong));
      }
    });
  }

  private static void lies(Document d) {
    d.at("Promise 17: lies");
    d.says("Tells which lace lies at a position.", () -> {
      LaceTangles x = Checks.laid("aBc");
      int[][] want = {{0, 1, 2, 3}, {1, 0, 2, 3}, {1, 2, 0, 3}, {1, 2, 3, 0}};
      for (int many = 0; many <= 3; many++) {
        for (int position = 0; position < 4; position++) {
          Checks.due("lies(" + many + ", " + position + ")", x.lies(many, position), want[many][position]);
        }
      }
      Checks.changesNothing("lies(2, 1)", "aBc", y -> y.lies(2, 1));
    });
    d.says("`many`: behind how many crossings, 0 to how many there are", () -> {
      LaceTangles full = Checks.laid("a".repeat(29) + "b");
      Checks.due("lies(0, 0)", full.lies(0, 0), 0);
      Checks.due("lies(1, 0)", full.lies(1, 0), 1);
      Checks.due("lies(28, 0)", full.lies(28, 0), 0);
      Checks.due("lies(29, 1)", full.lies(29, 1), 0);
      Checks.due("lies(30, 1)", full.lies(30, 1), 2);
      Checks.due("lies(0, 3) of none", new LaceTangles().lies(0, 3), 3);
      Checks.badArgument("aBc", "lies(-1, 0)", x -> x.lies(-1, 0));
      Checks.badArgument("aBc", "lies(4, 0)", x -> x.lies(4, 0));
    });
    d.says("`position`: 0 to 3", () -> {
      LaceTangles x = Checks.laid("abc");
      Checks.due("lies(3, 0)", x.lies(3, 0), 1);
      Checks.due("lies(3, 3)", x.lies(3, 3), 0);
      Checks.badIndex("abc", "lies(3, -1)", y -> y.lies(3, -1));
      Checks.badIndex("abc", "lies(3, 4)", y -> y.lies(3, 4));
    });
    d.says("Returns the lace.", () -> {
      LaceTangles x = Checks.laid("CBA");
      int[] want = {3, 0, 1, 2};
      for (int position = 0; position < 4; position++) {
        Checks.due("lies(3, " + position + ")", x.lies(3, position), want[position]);
      }
    });
    d.says("Throws `IndexOutOfBoundsException` if there is no such position", () -> {
      for (int wrong : NOT_FOUR) {
        Checks.badIndex("aBc", "lies(0, " + wrong + ")", x -> x.lies(0, wrong));
        Checks.badIndex("aBc", "lies(4, " + wrong + "), many out of range too,", x -> x.lies(4, wrong));
        Checks.badIndex("aBc", "lies(-1, " + wrong + "), many out of range too,", x -> x.lies(-1, wrong));
      }
    });
    d.says("Throws `IllegalArgumentException` if many is out of range", () -> {
      for (int wrong : new int[] {-1, 4, 30, 31, Checks.LOW, Checks.HIGH}) {
        Checks.badArgument("aBc", "lies(" + wrong + ", 3)", x -> x.lies(wrong, 3));
      }
      Checks.badArgument("", "lies(1, 0)", x -> x.lies(1, 0));
      Checks.badArgument("a".repeat(30), "lies(31, 0)", x -> x.lies(31, 0));
    });
  }

  private static void winding(Document d) {
    d.at("Promise 18: winding");
    d.says("Tells by how much two laces wind round each other.", () -> {
      LaceTangles x = Checks.laid("aabCCC");
      int[][] want = {{100, 102, 100, 100}, {102, 100, 101, 97}, {100, 101, 100, 100}, {100, 97, 100, 100}};
      for (int lace = 0; lace < 4; lace++) {
        for (int other = 0; other < 4; other++) {
          Checks.due("winding(" + lace + ", " + other + ")", x.winding(lace, other), want[lace][other]);
        }
      }
      Checks.changesNothing("winding(0, 1)", "aabCCC", y -> y.winding(0, 1));
    });
    d.says("`lace`: 0 to 3", () -> {
      Checks.due("winding(0, 1) of a", Checks.laid("a").winding(0, 1), 101);
      Checks.due("winding(3, 2) of C", Checks.laid("C").winding(3, 2), 99);
      Checks.badIndex("ab", "winding(-1, 0)", x -> x.winding(-1, 0));
      Checks.badIndex("ab", "winding(4, 0)", x -> x.winding(4, 0));
    });
    d.says("`other`: 0 to 3", () -> {
      Checks.due("winding(1, 0) of a", Checks.laid("a").winding(1, 0), 101);
      Checks.due("winding(2, 3) of C", Checks.laid("C").winding(2, 3), 99);
      Checks.badIndex("ab", "winding(0, -1)", x -> x.winding(0, -1));
      Checks.badIndex("ab", "winding(0, 4)", x -> x.winding(0, 4));
    });
    d.says("Returns the sum of signs, and 100 more;", () -> {
      Checks.due("winding(0, 1) of none", new LaceTangles().winding(0, 1), 100);
      Checks.due("winding(2, 3) of 30", Checks.laid("c".repeat(30)).winding(2, 3), 130);
      Checks.due("winding(1, 0) of 30", Checks.laid("A".repeat(30)).winding(1, 0), 70);
      Checks.due("winding(0, 1) of aA", Checks.laid("aA").winding(0, 1), 100);
    });
    d.says("100 for a lace and itself.", () -> {
      for (int lace = 0; lace < 4; lace++) {
        Checks.due("winding of itself", Checks.laid("abcabcAAA").winding(lace, lace), 100);
        Checks.due("winding of itself in none", new LaceTangles().winding(lace, lace), 100);
      }
    });
    d.says("Throws `IndexOutOfBoundsException` if there is no such lace", () -> {
      for (int wrong : NOT_FOUR) {
        Checks.badIndex("ab", "winding(3, " + wrong + ")", x -> x.winding(3, wrong));
        Checks.badIndex("ab", "winding(" + wrong + ", 0)", x -> x.winding(wrong, 0));
        Checks.badIndex("", "winding(" + wrong + ", " + wrong + ")", x -> x.winding(wrong, wrong));
      }
    });
  }

  private static void measure(Document d) {
    d.at("Promise 19: measure");
    d.says("Returns a number of the measure, multiplied from the first crossing on.", () -> {
      Checks.due("measure(0, 2) of ab", Checks.laid("ab").measure(0, 2), 4);
      Checks.due("measure(0, 2) of ba", Checks.laid("ba").measure(0, 2), 0);
      Checks.due("measure(1, 2) of ba", Checks.laid("ba").measure(1, 2), 2);
      Checks.changesNothing("measure(0, 2)", "ab", x -> x.measure(0, 2));
    });
    d.says("`row`: 0 to 3", () -> {
      Checks.due("measure(0, 1) of a", Checks.laid("a").measure(0, 1), 2);
      Checks.due("measure(3, 2) of c", Checks.laid("c").measure(3, 2), 1);
      Checks.badIndex("ab", "measure(-1, 0)", x -> x.measure(-1, 0));
      Checks.badIndex("ab", "measure(4, 0)", x -> x.measure(4, 0));
    });
    d.says("`column`: 0 to 3", () -> {
      Checks.due("measure(1, 0) of a", Checks.laid("a").measure(1, 0), 1);
      Checks.due("measure(2, 3) of c", Checks.laid("c").measure(2, 3), 2);
      Checks.badIndex("ab", "measure(0, -1)", x -> x.measure(0, -1));
      Checks.badIndex("ab", "measure(0, 4)", x -> x.measure(0, 4));
    });
    d.says("Returns the number.", () -> {
      Checks.due("measure(3, 3) of none", new LaceTangles().measure(3, 3), 1);
      Checks.due("measure(2, 3) of none", new LaceTangles().measure(2, 3), 0);
      Checks.due("measure(0, 0) of aaaa", Checks.laid("aaaa").measure(0, 0), 11);
      Checks.due("measure(0, 1) of aaaa", Checks.laid("aaaa").measure(0, 1), 9997);
      Checks.due("measure(1, 0) of aaaa", Checks.laid("aaaa").measure(1, 0), 10002);
    });
    d.says("Throws `IndexOutOfBoundsException` if there is no such row or column", () -> {
      for (int wrong : NOT_FOUR) {
        Checks.badIndex("ab", "measure(3, " + wrong + ")", x -> x.measure(3, wrong));
        Checks.badIndex("ab", "measure(" + wrong + ", 0)", x -> x.measure(wrong, 0));
        Checks.badIndex("", "measure(" + wrong + ", " + wrong + ")", x -> x.measure(wrong, wrong));
      }
    });
  }

  private static void halved(Document d) {
    d.at("Promise 20: halved");
    d.says("Returns the same number, found by halves.", () -> {
      String letters = "aBcAbCaBcAbCaBcaaBBccAABBCCabc";
      for (int many = 0; many <= 30; many++) {
        Checks.dueHalvesAsWhole(Checks.laid(letters.substring(30 - many)));
      }
      Checks.changesNothing("halved(0, 2)", "abc", x -> x.halved(0, 2));
    });
    d.says("`row`: 0 to 3", () -> {
      Checks.due("halved(0, 1) of a", Checks.laid("a").halved(0, 1), 2);
      Checks.due("halved(3, 2) of c", Checks.laid("c").halved(3, 2), 1);
      Checks.badIndex("ab", "halved(-1, 0)", x -> x.halved(-1, 0));
      Checks.badIndex("ab", "halved(4, 0)", x -> x.halved(4, 0));
    });
    d.says("`column`: 0 to 3", () -> {
      Checks.due("halved(1, 0) of a", Checks.laid("a").halved(1, 0), 1);
      Checks.due("halved(2, 3) of c", Checks.laid("c").halved(2, 3), 2);
      Checks.badIndex("ab", "halved(0, -1)", x -> x.halved(0, -1));
      Checks.badIndex("ab", "halved(0, 4)", x -> x.halved(0, 4));
    });
    d.says("Returns the number.", () -> {
      Checks.due("halved(3, 3) of none", new LaceTangles().halved(3, 3), 1);
      Checks.due("halved(2, 3) of none", new LaceTangles().halved(2, 3), 0);
      Checks.due("halved(0, 0) of aaaa", Checks.laid("aaaa").halved(0, 0), 11);
      Checks.due("halved(0, 2) of ab", Checks.laid("ab").halved(0, 2), 4);
      Checks.due("halved(1, 2) of ba", Checks.laid("ba").halved(1, 2), 2);
    });
    d.says("Throws `IndexOutOfBoundsException` if there is no such row or column", () -> {
      for (int wrong : NOT_FOUR) {
        Checks.badIndex("ab", "halved(3, " + wrong + ")", x -> x.halved(3, wrong));
        Checks.badIndex("ab", "halved(" + wrong + ", 0)", x -> x.halved(wrong, 0));
        Checks.badIndex("", "halved(" + wrong + ", " + wrong + ")", x -> x.halved(wrong, wrong));
      }
    });
  }

  private static void dueCount(int what, String letters, int want) {
    Checks.due("count(" + what + ") of " + letters, Checks.laid(letters).count(what), want);
  }

  private static void count(Document d) {
    d.at("Promise 21: count");
    d.says("Returns a number.", () -> {
      Checks.dueCounts(Checks.laid("abCA"), 4, 100, 0, 2, 14, 0, 3, 4);
      for (int what = 0; what <= 7; what++) {
        int it = what;
        Checks.changesNothing("count(" + what + ")", "abCA", x -> x.count(it));
      }
    });
    d.says("`what`: 0: crossings;", () -> {
      dueCount(0, "", 0);
      dueCount(0, "aA", 2);
      dueCount(0, "b".repeat(30), 30);
    });
    d.says("1: the twist, and 100 more;", () -> {
      dueCount(1, "", 100);
      dueCount(1, "aBC", 99);
      dueCount(1, "c".repeat(30), 130);
      dueCount(1, "C".repeat(30), 70);
    });
    d.says("2: moves so far (by move() and handle());", LooksTests::movesSoFar);
    d.says("3: crossings of the sign 1;", () -> {
      dueCount(3, "", 0);
      dueCount(3, "ABC", 0);
      dueCount(3, "aBcA", 2);
      dueCount(3, "b".repeat(30), 30);
    });
    d.says("4: ranks that occur, as a mask with the bit i for the rank i;", () -> {
      dueCount(4, "", 0);
      dueCount(4, "aA", 2);
      dueCount(4, "B", 4);
      dueCount(4, "cc", 8);
      dueCount(4, "Ab", 6);
      dueCount(4, "aC", 10);
      dueCount(4, "bC", 12);
      dueCount(4, "cba", 14);
    });
    d.says("5: where the first handle begins, NONE without one;", () -> {
      dueCount(5, "", -1);
      dueCount(5, "ab", -1);
      dueCount(5, "baB", -1);
      dueCount(5, "aA", 0);
      dueCount(5, "caaA", 2);
      dueCount(5, "a".repeat(29) + "A", 28);
    });
    d.says("6: where it ends, NONE without one;", () -> {
      dueCount(6, "", -1);
      dueCount(6, "ab", -1);
      dueCount(6, "baB", -1);
      dueCount(6, "aA", 1);
      dueCount(6, "cabbA", 4);
      dueCount(6, "a" + "b".repeat(28) + "A", 29);
    });
    d.says("7: saved states", () -> {
      LaceTangles x = new LaceTangles();
      Checks.due("count(7) of none", x.count(7), 0);
      for (int saved = 1; saved <= 8; saved++) {
        x.cross(1);
        Checks.due("count(7) behind " + saved, x.count(7), Math.min(saved, 6));
      }
    });
    d.says("Returns the number.", () -> {
      LaceTangles x = Checks.laid("abAcC");
      x.handle();
      x.move(0, 3);
      x.pull();
      Checks.dueCounts(x, 3, 101, 2, 2, 6, -1, -1, 6);
    });
    d.says("Throws `IllegalArgumentException` if what is not 0 to 7", () -> {
      for (int wrong : new int[] {-1, 8, Checks.LOW, Checks.HIGH}) {
        Checks.badArgument("", "count(" + wrong + ")", x -> x.count(wrong));
        Checks.badArgument("abA", "count(" + wrong + ")", x -> x.count(wrong));
      }
    });
  }

  private static void movesSoFar() {
    LaceTangles x = Checks.laid("acbA");
    x.move(1, 0);
    Checks.due("count(2) behind move()", x.count(2), 1);
    x.handle();
    Checks.due("count(2) behind handle()", x.count(2), 2);
    x.pair(0, 1);
    x.pull();
    x.turn();
    x.cross(1);
    x.open();
    x.keep();
    x.append('a');
    x.lace();
    x.bestMove();
    x.untangled(1);
    x.possible(0);
    Checks.answer(x, y -> y.move(0, 29));
    Checks.due("count(2), which all these do not count in,", x.count(2), 2);
    LaceTangles often = Checks.laid("ac");
    for (int times = 1; times <= 505; times++) {
      often.move(1, 0);
    }
    Checks.due("count(2) behind 505 moves", often.count(2), 505);
  }

  private static void dueReason(String letters, int move, int place, int want) {
    Checks.due("whyNot(" + move + ", " + place + ") of " + letters, Checks.laid(letters).whyNot(move, place), want);
  }

  private static void whyNot(Document d) {
    d.at("Promise 22: whyNot");
    d.says("Tells why a move is not possible.", () -> {
      LaceTangles x = Checks.laid("aAacabaBab");
      int[][] want = {
        {0, 0, 2, 2, 2, 2, 2, 2, 2, 1}, {2, 2, 0, 0, 2, 2, 2, 2, 2, 1}, {2, 2, 2, 2, 0, 0, 3, 0, 1, 1},
      };
      for (int move = 0; move < 3; move++) {
        for (int place = 0; place < 10; place++) {
          Checks.due("whyNot(" + move + ", " + place + ")", x.whyNot(move, place), want[move][place]);
        }
      }
      Checks.changesNothing("whyNot(0, 0) of a move", "aA", y -> y.whyNot(0, 0));
      Checks.changesNothing("whyNot(2, 0) of none", "aA", y -> y.whyNot(2, 0));
    });
    d.says("`move`: 0 to 2", () -> {
      dueReason("aA", 0, 0, 0);
      dueReason("aba", 2, 0, 0);
      Checks.badArgument("aA", "whyNot(-1, 0)", x -> x.whyNot(-1, 0));
      Checks.badArgument("aA", "whyNot(3, 0)", x -> x.whyNot(3, 0));
    });
    d.says("`place`: 0 or more", () -> {
      dueReason("Ca", 1, 0, 0);
      dueReason("b".repeat(28) + "Ca", 1, 28, 0);
      Checks.badArgument("Ca", "whyNot(1, -1)", x -> x.whyNot(1, -1));
    });
    d.says("Returns the first reason that applies: 1: there are not so many crossings from the place on;", () -> {
      for (int move = 0; move <= 2; move++) {
        for (int place : new int[] {0, 1, 29, 30, Checks.HIGH - 2, Checks.HIGH - 1, Checks.HIGH}) {
          dueReason("", move, place, 1);
          dueReason("a", move, place, 1);
        }
        dueReason("b".repeat(30), move, 29, 1);
        dueReason("b".repeat(30), move, 30, 1);
        dueReason("b".repeat(30), move, Checks.HIGH, 1);
      }
      dueReason("ab", 2, 0, 1);
      dueReason("b".repeat(30), 2, 28, 1);
      dueReason("b".repeat(30), 2, 27, 2);
      dueReason("b".repeat(30), 1, 28, 2);
      dueReason("b".repeat(30), 0, 28, 3);
    });
    d.says("2: the ranks do not fit;", () -> {
      dueReason("aB", 0, 0, 2);
      dueReason("ab", 0, 0, 2);
      dueReason("aC", 0, 0, 2);
      for (String letters : new String[] {"aa", "ab", "ba", "bB", "bc", "cB", "cc", "aA"}) {
        dueReason(letters, 1, 0, 2);
      }
      for (String letters : new String[] {"aaa", "aca", "cAc", "abc", "abb", "aab", "bBb", "cac", "aBc", "aBb", "bAc"}) {
        dueReason(letters, 2, 0, 2);
      }
    });
    d.says("3: the signs do not fit;", () -> {
      dueReason("aa", 0, 0, 3);
      dueReason("CC", 0, 0, 3);
      for (String letters : new String[] {"aBa", "AbA", "bAb", "BaB", "bCb", "BcB", "cBc", "CbC"}) {
        dueReason(letters, 2, 0, 3);
      }
    });
    d.says("0 if it is possible.", () -> {
      for (String letters : new String[] {"aA", "Bb", "cC"}) {
        dueReason(letters, 0, 0, 0);
      }
      for (String letters : new String[] {"ac", "aC", "Ac", "AC", "ca", "cA", "Ca", "CA"}) {
        dueReason(letters, 1, 0, 0);
      }
      for (String letters : new String[] {"aba", "ABA", "abA", "aBA", "ABa", "Aba", "bab", "bcb", "cbc", "CBc", "Bcb",
        "cbC"}) {
        dueReason(letters, 2, 0, 0);
      }
    });
    d.says("Throws `IllegalArgumentException` if there is no such move, or place is below 0", () -> {
      int[][] wrongs = {{-1, 0}, {3, 0}, {Checks.LOW, 0}, {Checks.HIGH, 0}, {0, -1}, {1, -1}, {2, -1}, {0, Checks.LOW},
        {1, Checks.LOW}, {2, Checks.LOW}, {3, -1}, {-1, Checks.HIGH}};
      for (int[] wrong : wrongs) {
        String told = "whyNot(" + wrong[0] + ", " + wrong[1] + ")";
        Checks.badArgument("", told, x -> x.whyNot(wrong[0], wrong[1]));
        Checks.badArgument("aAca", told, x -> x.whyNot(wrong[0], wrong[1]));
      }
    });
  }
}
