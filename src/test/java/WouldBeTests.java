import java.math.BigInteger;
import java.util.ArrayList;
import java.util.List;

/** Promises 23 to 29: what would be, while nothing is changed. */
final class WouldBeTests {
  /** Needs more handles than were found for any other 30 crossings: 454. */
  private static final String DEAREST = "aBaBaBacBaBaBcBAaAaAaAaAaAaAaA";
  private static final String LEFT_OF_DEAREST = "cBCBAbABcAbbABcAbbbABcAbbABcAbbABcAbbcAb";

  // pairs of 30 crossings: the snapshot's, turned over, and the tangle's, which need so many handles together
  private static final String TURNED_600 = "AbAbCbAbCAbAbACACaAbabCAbccaBB";
  private static final String BEHIND_600 = "CAAaAaBabaAaAaAaAacaAaAaAbAbCB";
  private static final String TURNED_601 = "AbbAAbCaCABbAAbAbbaAAbbCbaBaBB";
  private static final String BEHIND_601 = "CcBBAaAcAaBaAcacACcbaaAcAaaCAA";
  private static final String TURNED_2074 = "AbAbAbAbCAbAbAbACbAbAbCAbbaaBB";
  private static final String BEHIND_2074 = "CAbaAaAaAaAaAaAaAaAaAaAaAaAaAa";

  private WouldBeTests() {}

  static void say(Document d) {
    untangled(d);
    left(d);
    same(d);
    possible(d);
    bestMove(d);
    slack(d);
    digest(d);
  }

  static int handlesOfTheMost() {
    return Inside.untangling(TURNED_600 + BEHIND_600).answer(1);
  }

  static int handlesOfTooMany() {
    return Inside.untangling(TURNED_601 + BEHIND_601).answer(1);
  }

  private static void dueUntangled(String letters, int... want) {
    LaceTangles x = Checks.laid(letters);
    for (int what = 0; what < 4; what++) {
      Checks.due("untangled(" + what + ") of " + letters, x.untangled(what), want[what]);
    }
  }

  private static void dueUntangledTo(int what, String letters, int want) {
    Checks.due("untangled(" + what + ") of " + letters, Checks.laid(letters).untangled(what), want);
  }

  private static void untangled(Document d) {
    d.at("Promise 23: untangled");
    d.says("Tells what is left when the tangle is untangled.", () -> {
      dueUntangled("", 0, 0, 0, 0);
      dueUntangled("abA", 3, 1, 1, 3);
      dueUntangled("abaBAB", 0, 4, 0, 6);
      dueUntangled("abbA", 4, 2, 1, 6);
      dueUntangled(DEAREST, 40, 454, 2, 72);
      for (int what = 0; what <= 3; what++) {
        int it = what;
        Checks.changesNothing("untangled(" + what + ")", "abbA", x -> x.untangled(it));
      }
    });
    d.says("`what`: 0: the crossings that are left, how many;", () -> {
      dueUntangledTo(0, "", 0);
      dueUntangledTo(0, "aA", 0);
      dueUntangledTo(0, "acA", 1);
      dueUntangledTo(0, "ab", 2);
      dueUntangledTo(0, "a".repeat(30), 30);
      dueUntangledTo(0, DEAREST, 40);
    });
    d.says("1: how many handles are undone until then;", () -> {
      dueUntangledTo(1, "", 0);
      dueUntangledTo(1, "abab", 0);
      dueUntangledTo(1, "aA", 1);
      dueUntangledTo(1, "aA".repeat(15), 15);
      dueUntangledTo(1, DEAREST, 454);
    });
    d.says("2: 0 if it is no tangle, 1 if it leans by the sign 1, 2 if by the sign -1;", () -> {
      dueUntangledTo(2, "", 0);
      dueUntangledTo(2, "aA", 0);
      dueUntangledTo(2, "abaBAB", 0);
      dueUntangledTo(2, "c", 1);
      dueUntangledTo(2, "C", 2);
      dueUntangledTo(2, "bC", 1);
      dueUntangledTo(2, "CbC", 1);
      dueUntangledTo(2, "cBc", 2);
      dueUntangledTo(2, "cbA", 2);
      dueUntangledTo(2, "CBa", 1);
      dueUntangledTo(2, "aBA", 2);
      dueUntangledTo(2, "abA", 1);
    });
    d.says("3: the most crossings that there are ahead, between and behind", () -> {
      dueUntangledTo(3, "", 0);
      dueUntangledTo(3, "acA", 3);
      dueUntangledTo(3, "abbA", 6);
      dueUntangledTo(3, "abcbA", 7);
      dueUntangledTo(3, DEAREST, 72);
    });
    d.says("Returns the number;", () -> dueUntangled("abcbA", 7, 2, 1, 7));
    d.says("NONE if 600 handles, or 400 crossings, are not enough.", () -> {
      for (int what = 0; what <= 3; what++) {
        String told = "what untangled(" + what + ") would be";
        Checks.due(told + " of 601 handles", Inside.untangling(TURNED_601 + BEHIND_601).answer(what), -1);
        Checks.check(told + " of 600 handles is none", Inside.untangling(TURNED_600 + BEHIND_600).answer(what) > 0);
        Checks.due(told + " of 401 crossings", Inside.untangling("a" + "b".repeat(133) + "Acc").answer(what), -1);
      }
      Inside just = Inside.untangling("a" + "b".repeat(133) + "Ac");
      Checks.due("what is left of 400 crossings", just.answer(0), 136);
      Checks.due("its handles", just.answer(1), 133);
      Checks.due("its side", just.answer(2), 1);
      Checks.due("its most", just.answer(3), 400);
      Checks.due("the handles of 600", Inside.untangling(TURNED_600 + BEHIND_600).answer(1), 600);
    });
    d.says("Throws `IllegalArgumentException` if what is not 0 to 3", () -> {
      for (int wrong : new int[] {-1, 4, Checks.LOW, Checks.HIGH}) {
        Checks.badArgument("", "untangled(" + wrong + ")", x -> x.untangled(wrong));
        Checks.badArgument("abA", "untangled(" + wrong + ")", x -> x.untangled(wrong));
      }
    });
  }

  private static void left(Document d) {
    d.at("Promise 24: left");
    d.says("Returns a crossing of what is left when the tangle is untangled.", () -> {
      String[][] lefts = {{"cabAC", "cBabC"}, {"abcbA", "BaCbcab"}, {"abbA", "Baab"}, {"aBcCA", "BAb"}, {"ab", "ab"},
        {DEAREST, LEFT_OF_DEAREST}};
      for (String[] left : lefts) {
        LaceTangles x = Checks.laid(left[0]);
        for (int place = 0; place < left[1].length(); place++) {
          Checks.due("left(" + place + ") of " + left[0], x.left(place), 10 + Checks.crossingOf(left[1].charAt(place)));
        }
      }
      Checks.changesNothing("left(0)", "abbA", x -> x.left(0));
    });
    d.says("`place`: 0 or more", () -> {
      Checks.due("left(0) of a", Checks.laid("a").left(0), 11);
      Checks.badArgument("a", "left(-1)", x -> x.left(-1));
    });
    d.says("Returns the crossing, and 10 more;", () -> {
      LaceTangles x = Checks.laid("abcCBA" + "c".repeat(3));
      Checks.due("left(2) of ccc", x.left(2), 13);
      for (int crossing : Checks.CROSSINGS) {
        LaceTangles one = new LaceTangles();
        one.cross(crossing);
        Checks.due("left(0) of " + crossing, one.left(0), crossing + 10);
      }
    });
    d.says("NONE if there are not so many,", () -> {
      LaceTangles x = Checks.laid("acA");
      Checks.due("left(0) of acA", x.left(0), 13);
      for (int place : new int[] {1, 2, 3, 30, 400, Checks.HIGH}) {
        Checks.due("left(" + place + ") of acA", x.left(place), -1);
      }
      Checks.due("left(0) of none", new LaceTangles().left(0), -1);
      Checks.due("left(0) of aA", Checks.laid("aA").left(0), -1);
      Checks.due("left(39) of 40", Checks.laid(DEAREST).left(39), 12);
      Checks.due("left(40) of 40", Checks.laid(DEAREST).left(40), -1);
    });
    d.says("or 600 handles, or 400 crossings, are not enough.", () -> {
      Checks.due("what left(0) would be of 601 handles", Inside.untangling(TURNED_601 + BEHIND_601).leftAt(0), -1);
      Checks.check("what left(0) would be of 600 handles is none",
          Inside.untangling(TURNED_600 + BEHIND_600).leftAt(0) > 0);
      Checks.due("what left(0) would be of 401 crossings", Inside.untangling("a" + "b".repeat(133) + "Acc").leftAt(0), -1);
      Checks.due("what left(0) would be of 400 crossings", Inside.untangling("a" + "b".repeat(133) + "Ac").leftAt(0), 8);
    });
    d.says("Throws `IllegalArgumentException` if place is below 0", () -> {
      for (int wrong : new int[] {-1, Checks.LOW}) {
        Checks.badArgument("", "left(" + wrong + ")", x -> x.left(wrong));
        Checks.badArgument("abA", "left(" + wrong + ")", x -> x.left(wrong));
      }
    });
  }

  /** A snapshot that is this when it is turned over, and these crossings. */
  private static LaceTangles turnedAndBehind(String turned, String behind) {
    LaceTangles x = Checks.laid(turned);
    x.turn();
    x.keep();
    for (int many = turned.length(); many > 0; many--) {
      x.open();
    }
    Checks.lay(x, behind);
    return x;
  }

  private static void dueSame(String snapshot, String letters, int want) {
    LaceTangles x = Checks.laid(snapshot);
    x.keep();
    for (int many = snapshot.length(); many > 0; many--) {
      x.open();
    }
    Checks.lay(x, letters);
    Checks.due("same() of " + letters + " and of " + snapshot + " in the snapshot", x.same(), want);
  }

  private static void same(Document d) {
    d.at("Promise 25: same");
    d.says("Tells whether this tangle and that of the snapshot are the same.", () -> {
      LaceTangles x = Checks.laid("aba");
      x.keep();
      Checks.due("same() as the snapshot", x.same(), 1);
      x.move(2, 0);
      Checks.due("same() behind a move", x.same(), 1);
      x.pair(1, -3);
      Checks.due("same() with a pair", x.same(), 1);
      x.cross(1);
      Checks.due("same() with one more", x.same(), 0);
      x.keep();
      Checks.due("same() as a new snapshot", x.same(), 1);
      Checks.changesNothing("same()", "abbA", LaceTangles::same);
    });
    d.says("Returns 1 if the crossings of the snapshot's tangle turned over, with those of this one behind them, are no"
        + " tangle,", () -> {
          dueSame("", "", 1);
          dueSame("", "aA", 1);
          dueSame("bB", "", 1);
          dueSame("ac", "ca", 1);
          dueSame("bcB", "Cbc", 1);
          dueSame("abCab".repeat(6), "abCab".repeat(6), 1);
        });
    d.says("0 if they are one;", () -> {
      dueSame("", "a", 0);
      dueSame("a", "", 0);
      dueSame("a", "A", 0);
      dueSame("ab", "ba", 0);
      dueSame("ab", "BA", 0);
      dueSame("a".repeat(30), "a".repeat(29), 0);
      dueSame("a".repeat(30), "A".repeat(30), 0);
    });
    d.says("NONE if 600 handles, or 400 crossings, are not enough.", () -> {
      Checks.due("same() of 600 handles", turnedAndBehind(TURNED_600, BEHIND_600).same(), 0);
      Checks.due("same() of 601 handles", turnedAndBehind(TURNED_601, BEHIND_601).same(), -1);
      Checks.due("same() of 2074 handles", turnedAndBehind(TURNED_2074, BEHIND_2074).same(), -1);
      LaceTangles x = turnedAndBehind(TURNED_601, BEHIND_601);
      Checks.check("the tangle alone needs too many", x.untangled(1) >= 0);
      Checks.due("same() of 601 handles behind untangled()", x.same(), -1);
      Checks.check("the tangle alone needs too many behind same()", x.untangled(1) >= 0 && x.left(0) > 0);
      Checks.due("same() of 601 handles behind left()", x.same(), -1);
      x.keep();
      Checks.due("same() as a new snapshot", x.same(), 1);
    });
    d.says("Throws `IllegalStateException` if there is no snapshot", () -> {
      Checks.refused(IllegalStateException.class, "same() of a new one", x -> {}, LaceTangles::same);
      Checks.refused(IllegalStateException.class, "same() with crossings and a buffer", x -> {
        Checks.lay(x, "abA");
        x.handle();
        Checks.type(x, "a2");
      }, LaceTangles::same);
    });
  }

  private static void possible(Document d) {
    d.at("Promise 26: possible");
    d.says("Counts the moves that are possible.", () -> {
      LaceTangles x = Checks.laid("aAacabab");
      Checks.due("possible(0)", x.possible(0), 2);
      Checks.due("possible(1)", x.possible(1), 2);
      Checks.due("possible(2)", x.possible(2), 2);
      for (int move = 0; move <= 2; move++) {
        int it = move;
        Checks.changesNothing("possible(" + move + ")", "aAcaba", y -> y.possible(it));
      }
    });
    d.says("`move`: 0 to 2", () -> {
      Checks.due("possible(0) of aA", Checks.laid("aA").possible(0), 1);
      Checks.due("possible(2) of aba", Checks.laid("aba").possible(2), 1);
      Checks.badArgument("aA", "possible(-1)", x -> x.possible(-1));
      Checks.badArgument("aA", "possible(3)", x -> x.possible(3));
    });
    d.says("Returns at how many places.", () -> {
      for (int move = 0; move <= 2; move++) {
        Checks.due("possible(" + move + ") of none", new LaceTangles().possible(move), 0);
        Checks.due("possible(" + move + ") of one", Checks.laid("a").possible(move), 0);
        Checks.due("possible(" + move + ") of bb", Checks.laid("bb").possible(move), 0);
      }
      Checks.due("possible(0) at all of 30", Checks.laid("aA".repeat(15)).possible(0), 29);
      Checks.due("possible(1) at all of 30", Checks.laid("aC".repeat(15)).possible(1), 29);
      Checks.due("possible(2) at all of 30", Checks.laid("ab".repeat(15)).possible(2), 28);
      Checks.due("possible(0) at the last place", Checks.laid("a".repeat(29) + "A").possible(0), 1);
      Checks.due("possible(2) at the last place", Checks.laid("b".repeat(28) + "cb").possible(2), 1);
    });
    d.says("Throws `IllegalArgumentException` if there is no such move", () -> {
      for (int wrong : new int[] {-1, 3, Checks.LOW, Checks.HIGH}) {
        Checks.badArgument("", "possible(" + wrong + ")", x -> x.possible(wrong));
        Checks.badArgument("aAcaba", "possible(" + wrong + ")", x -> x.possible(wrong));
      }
    });
  }

  private static void dueBest(String letters, int want) {
    Checks.due("bestMove() of " + letters, Checks.laid(letters).bestMove(), want);
  }

  private static void bestMove(Document d) {
    d.at("Promise 27: bestMove");
    d.says("Finds a move by which a pair comes to cancel.", () -> {
      dueBest("acA", 31);
      dueBest("abaB", 62);
      Checks.changesNothing("bestMove()", "bacA", LaceTangles::bestMove);
    });
    d.says("Returns 31 * move and place, together,", () -> {
      dueBest("bacA", 32);
      dueBest("cabaB", 63);
      dueBest("b".repeat(27) + "Aca", 58);
      dueBest("c".repeat(26) + "Baba", 88);
    });
    d.says("of the first move, 1 or 2,", () -> {
      dueBest("abaBcbacA", 37);
      dueBest("acAbabA", 31);
      dueBest("aAaA", -1);
    });
    d.says("and of this the lowest place,", () -> {
      dueBest("acAbacA", 31);
      dueBest("bacAbacA", 32);
      dueBest("abaBcbcB", 62);
    });
    d.says("behind which move 0 is possible at more places than now;", () -> {
      dueBest("aAca", 33);
      dueBest("acCA", -1);
      dueBest("cCAab", -1);
      dueBest("aAabAB", 65);
    });
    d.says("NONE if there is none.", () -> {
      dueBest("", -1);
      dueBest("a", -1);
      dueBest("ac", -1);
      dueBest("acac", -1);
      dueBest("aba", -1);
      dueBest("aA", -1);
      dueBest("b".repeat(30), -1);
    });
  }

  private static void dueSlack(String letters, double want) {
    Checks.dueShare("slack() of " + letters, Checks.laid(letters).slack(), want);
  }

  private static void slack(Document d) {
    d.at("Promise 28: slack");
    d.says("Returns how much of the tangle pulling takes away.", () -> {
      dueSlack("abBc", 0.5);
      dueSlack("abBA", 1.0);
      Checks.changesNothing("slack()", "abBA", LaceTangles::slack);
    });
    d.says("Returns the crossings that pull() would take away, as a double, divided by all crossings;", () -> {
      dueSlack("a", 0.0);
      dueSlack("acA", 0.0);
      dueSlack("aAb", 2.0 / 3.0);
      dueSlack("bacCA", 4.0 / 5.0);
      dueSlack("aA", 1.0);
      dueSlack("a".repeat(15) + "A".repeat(15), 1.0);
      dueSlack("b".repeat(28) + "cC", 2.0 / 30.0);
      dueSlack("b" + "cC".repeat(14), 28.0 / 29.0);
    });
    d.says("0.0 without any.", () -> {
      dueSlack("", 0.0);
      LaceTangles x = Checks.laid("a");
      x.open();
      Checks.dueShare("slack() of none left", x.slack(), 0.0);
    });
  }

  private static void digest(Document d) {
    d.at("Promise 29: digest");
    d.says("Computes a hash of the whole state.", () -> {
      LaceTangles x = Checks.laid("aAb");
      long before = x.digest();
      x.move(0, 0);
      Checks.check("another tangle has the same digest", x.digest() != before);
      x.undo();
      Checks.due("digest() behind undo()", x.digest(), before);
      x.keep();
      Checks.due("digest() behind keep()", x.digest(), before);
      x.append('a');
      Checks.check("another buffer has the same digest", x.digest() != before);
      Checks.changesNothing("digest()", "abA", LaceTangles::digest);
    });
    d.says("The hash starts at 3673.",
        () -> Checks.due("digest() of a new one", new LaceTangles().digest(), -7783319497004488450L));
    d.says("For each value v of the following list, in order, the hash becomes 31 * hash + v, in long arithmetic with"
        + " overflow.", () -> {
          for (String letters : new String[] {"a", "C", "ab", "aA", "abBA", "cabAC", "baBAAbcA"}) {
            LaceTangles x = Checks.laid(letters);
            BigInteger hash = BigInteger.valueOf(3673);
            for (long value : valuesOf(x, "")) {
              hash = hash.multiply(BigInteger.valueOf(31)).add(BigInteger.valueOf(value));
            }
            Checks.due("digest() of " + letters, x.digest(), hash.longValue());
          }
        });
    d.says("The values are: count(0) to count(7); each crossing, and 10 more; lies behind all crossings of 0 to 3; winding"
        + " of the lace 0 and 1 to 3 each, of 1 and 2, 1 and 3, and 2 and 3; for each row and column, row by row, measure"
        + " and then halved; untangled of 0 to 3; left of the places 0 to 5; possible of 0 to 2; bestMove;", () -> {
          for (String letters : new String[] {"", "aAbCc", "abABc", "acACb", "aBcAbC", "abcbA",
            "aBcAbCaBcAbCaBcaaBBccAABBCCabc", DEAREST}) {
            dueDigest(Checks.laid(letters), "digest() of " + letters, "");
          }
          LaceTangles moved = Checks.laid("abcBcCA");
          moved.handle();
          moved.move(0, 4);
          moved.undo();
          moved.undo();
          moved.handle();
          dueDigest(moved, "digest() behind moves", "");
        });
    d.says("the bits of slack (as Double.doubleToLongBits);", () -> {
      for (int all = 0; all <= 30; all++) {
        for (int gone = 0; gone <= all; gone += 2) {
          dueDigest(Checks.laid("aA".repeat(gone / 2) + "b".repeat(all - gone)), gone + " of " + all + " gone", "");
        }
      }
    });
    d.says("the length of the buffer and each of its character codes.", () -> {
      for (String text : new String[] {"a", "!", "~", "a2", "2a", "a9~!", "a9".repeat(30)}) {
        LaceTangles x = Checks.laid("abA");
        Checks.type(x, text);
        dueDigest(x, "digest() with the buffer " + text, text);
        x.clearBuffer();
        dueDigest(x, "digest() with a cleared buffer", "");
      }
    });
    d.says("Returns the hash.", () -> {
      LaceTangles x = Checks.laid("abA");
      long first = x.digest();
      Checks.due("digest() again", x.digest(), first);
      Checks.due("digest() of the same in another object", Checks.laid("abA").digest(), first);
    });
  }

  private static void dueDigest(LaceTangles x, String what, String buffer) {
    long hash = 3673;
    for (long value : valuesOf(x, buffer)) {
      hash = 31 * hash + value;
    }
    Checks.due(what, x.digest(), hash);
  }

  /** The list of the document, out of the other calls. */
  private static List<Long> valuesOf(LaceTangles x, String buffer) {
    List<Long> values = new ArrayList<>();
    for (int what = 0; what <= 7; what++) {
      values.add((long) x.count(what));
    }
    for (int place = 0; place < x.count(0); place++) {
      values.add((long) x.crossing(place));
    }
    for (int position = 0; position <= 3; position++) {
      values.add((long) x.lies(x.count(0), position));
    }
    for (int[] two : new int[][] {{0, 1}, {0, 2}, {0, 3}, {1, 2}, {1, 3}, {2, 3}}) {
      values.add((long) x.winding(two[0], two[1]));
    }
    for (int cell = 0; cell < 16; cell++) {
      values.add((long) x.measure(cell / 4, cell % 4));
      values.add((long) x.halved(cell / 4, cell % 4));
    }
    for (int what = 0; what <= 3; what++) {
      values.add((long) x.untangled(what));
    }
    for (int place = 0; place <= 5; place++) {
      values.add((long) x.left(place));
    }
    for (int move = 0; move <= 2; move++) {
      values.add((long) x.possible(move));
    }
    values.add((long) x.bestMove());
    values.add(Double.doubleToLongBits(x.slack()));
    values.add((long) buffer.length());
    buffer.chars().forEach(code -> values.add((long) code));
    return values;
  }
}
