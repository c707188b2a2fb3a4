import java.io.IOException;
import java.lang.reflect.Method;
import java.nio.file.Files;
import java.nio.file.Path;

/** What the document says under "Terms": what all promises rest on. */
final class TermsTests {
  private TermsTests() {}

  static void say(Document d, Path classFile) {
    crossings(d);
    moves(d);
    measure(d);
    winding(d);
    handles(d);
    untangling(d);
    texts(d);
    undo(d);
    exceptions(d, classFile);
  }

  private static void crossings(Document d) {
    d.at("Terms");
    d.says("All numbers are integers, but for a share.", () -> {
      for (Method method : LaceTangles.class.getMethods()) {
        if (method.getDeclaringClass() == LaceTangles.class) {
          Class<?> want = method.getName().equals("slack") ? double.class
              : method.getName().equals("digest") ? long.class : int.class;
          Checks.check(method + " does not answer " + want, method.getReturnType() == want);
        }
      }
    });
    d.says("There are 4 laces, numbered from 0, which lie at first at the positions 0 (left) to 3.", () -> {
      for (int lace = 0; lace < 4; lace++) {
        Checks.due("lies(0, " + lace + ")", new LaceTangles().lies(0, lace), lace);
        Checks.due("lies(0, " + lace + ") of abC", Checks.laid("abC").lies(0, lace), lace);
      }
      Checks.badIndex("abC", "lies(0, 4)", x -> x.lies(0, 4));
      Checks.badIndex("abC", "winding(0, 4)", x -> x.winding(0, 4));
    });
    d.says("A tangle is a row of at most 30 crossings, with places from 0 on.", () -> {
      String most = "aBcA".repeat(7) + "a";
      LaceTangles x = Checks.laid(most);
      Checks.due("cross(3)", x.cross(3), 30);
      Checks.due("crossing(0)", x.crossing(0), 11);
      Checks.due("crossing(29)", x.crossing(29), 13);
      Checks.due("crossing(30)", x.crossing(30), -1);
      Checks.badState(most + "c", "cross(1)", y -> y.cross(1));
      Checks.badState(most, "pair(0, 1)", y -> y.pair(0, 1));
      Checks.badState("abbA" + "c".repeat(25), "handle()", LaceTangles::handle);
      Checks.type(x, "a");
      Checks.due("lace()", x.lace(), 0);
      Checks.due("count(0)", x.count(0), 30);
    });
    d.says("A crossing is a number: 1, 2 or 3, if the laces at the positions (number less 1) and (number) change their"
        + " positions, the one from the left going over;", () -> {
          dueCrossing("a", 1, 0, 2, 3);
          dueCrossing("b", 0, 2, 1, 3);
          dueCrossing("c", 0, 1, 3, 2);
        });
    d.says("-1, -2 or -3, if the same laces do, the one from the right going over.", () -> {
      dueCrossing("A", 1, 0, 2, 3);
      dueCrossing("B", 0, 2, 1, 3);
      dueCrossing("C", 0, 1, 3, 2);
    });
    d.says("The sign of a crossing is 1 or -1; its number without the sign is its rank.", () -> {
      for (int crossing : Checks.CROSSINGS) {
        LaceTangles x = new LaceTangles();
        x.cross(crossing);
        int rank = Math.abs(crossing);
        Checks.dueCounts(x, 1, crossing > 0 ? 101 : 99, 0, crossing > 0 ? 1 : 0, 1 << rank);
        Checks.due("winding", x.winding(rank - 1, rank), crossing > 0 ? 101 : 99);
      }
    });
  }

  /** Which laces lie where behind it, behind what came first. */
  private static void dueCrossing(String letter, int... lying) {
    LaceTangles x = Checks.laid(letter);
    LaceTangles behind = Checks.laid("abc" + letter);
    for (int position = 0; position < 4; position++) {
      Checks.due("lies(1, " + position + ") of " + letter, x.lies(1, position), lying[position]);
      Checks.due("lies(4, " + position + ") of abc" + letter, behind.lies(4, position), behind.lies(3, lying[position]));
    }
  }

  private static void moves(Document d) {
    d.at("Moves");
    d.says("A move at a place changes the crossings there; it is possible, if it fits them:", () -> {
      dueMove("cb", "aA", 0, "", "ab");
      dueMove("cb", "aC", 1, "Ca", "ab");
      dueMove("cb", "aba", 2, "bab", "cb");
      dueMove("aAcaba", "Bb", 0, "", "aAcaba");
    });
    d.says("0: cancel: two crossings, at the place and the next one, with the same rank and unlike signs, are gone.", () -> {
      for (int x : Checks.CROSSINGS) {
        for (int y : Checks.CROSSINGS) {
          String two = Checks.letterOf(x) + Checks.letterOf(y);
          dueMove("c", two, 0, x == -y ? "" : null, "a");
        }
      }
    });
    d.says("1: far: two crossings, at the place and the next one, with ranks 1 and 3, or 3 and 1, change places.", () -> {
      for (int x : Checks.CROSSINGS) {
        for (int y : Checks.CROSSINGS) {
          String two = Checks.letterOf(x) + Checks.letterOf(y);
          boolean isFar = Math.abs(x) + Math.abs(y) == 4 && Math.abs(x) != 2;
          dueMove("b", two, 1, isFar ? Checks.letterOf(y) + Checks.letterOf(x) : null, "b");
        }
      }
    });
    d.says("2: three: the crossings at the place and the next two are x, y, z, with the ranks i, k, i, where i and k differ"
        + " by 1; and not the signs of x and z are the same and that of y another one:", () -> {
          int possible = 0;
          for (int code = 0; code < 216; code++) {
            String three = threeOf(code);
            String ranks = three.toLowerCase();
            boolean fit = ranks.matches("aba|bab|bcb|cbc");
            boolean signsFit = !three.matches("[a-c][A-C][a-c]|[A-C][a-c][A-C]");
            LaceTangles x = Checks.laid("c" + three + "a");
            Checks.due("whyNot(2, 1) of " + three, x.whyNot(2, 1), !fit ? 2 : signsFit ? 0 : 3);
            possible += x.whyNot(2, 1) == 0 ? 1 : 0;
          }
          Checks.due("threes that are possible", possible, 24);
        });
    d.says("then in their places come a crossing of the rank k with the sign of z, one of the rank i with the sign of y,"
        + " and one of the rank k with the sign of x.", () -> {
          String[][] threes = {
            {"aba", "bab"}, {"abA", "Bab"}, {"aBA", "BAb"}, {"ABA", "BAB"}, {"ABa", "bAB"}, {"Aba", "baB"},
            {"bab", "aba"}, {"baB", "Aba"}, {"bAB", "ABa"}, {"BAB", "ABA"}, {"BAb", "aBA"}, {"Bab", "abA"},
            {"bcb", "cbc"}, {"bcB", "Cbc"}, {"bCB", "CBc"}, {"BCB", "CBC"}, {"BCb", "cBC"}, {"Bcb", "cbC"},
            {"cbc", "bcb"}, {"cbC", "Bcb"}, {"cBC", "BCb"}, {"CBC", "BCB"}, {"CBc", "bCB"}, {"Cbc", "bcB"}};
          for (String[] three : threes) {
            dueMove("c", three[0], 2, three[1], "C");
          }
        });
    d.says("Behind each move the same laces lie at the same positions in the end; each two laces wind round each other as"
        + " often; and the measure is the same.", () -> {
          for (int code = 0; code < 216; code++) {
            for (int move = 0; move <= 2; move++) {
              LaceTangles x = Checks.laid("aBc" + threeOf(code) + "Cab");
              LaceTangles before = Checks.laid("aBc" + threeOf(code) + "Cab");
              if (x.whyNot(move, 3) == 0) {
                x.move(move, 3);
                dueAlike(x, before, "move(" + move + ", 3) of " + Checks.row(before));
              }
            }
          }
        });
  }

  private static String threeOf(int code) {
    return Checks.letterOf(Checks.CROSSINGS[code / 36]) + Checks.letterOf(Checks.CROSSINGS[code / 6 % 6])
        + Checks.letterOf(Checks.CROSSINGS[code % 6]);
  }

  /** The move is made between others that stay; or is refused, if it becomes null. */
  private static void dueMove(String ahead, String part, int move, String becomes, String behind) {
    LaceTangles x = Checks.laid(ahead + part + behind);
    int place = ahead.length();
    if (becomes == null) {
      String got = Checks.answer(x, y -> y.move(move, place));
      Checks.check("move(" + move + ", " + place + ") of " + Checks.row(x) + " answered " + got,
          got.equals("throws.IllegalStateException"));
      Checks.dueRow(x, ahead + part + behind);
    } else {
      x.move(move, place);
      Checks.dueRow(x, ahead + becomes + behind);
    }
  }

  private static void dueAlike(LaceTangles x, LaceTangles before, String what) {
    for (int one = 0; one < 4; one++) {
      Checks.due("lies behind " + what, x.lies(x.count(0), one), before.lies(before.count(0), one));
      for (int two = 0; two < 4; two++) {
        Checks.due("winding behind " + what, x.winding(one, two), before.winding(one, two));
        Checks.due("measure behind " + what, x.measure(one, two), before.measure(one, two));
        Checks.due("halved behind " + what, x.halved(one, two), before.halved(one, two));
      }
    }
  }

  private static void dueMeasure(String letters, int... want) {
    LaceTangles x = Checks.laid(letters);
    for (int cell = 0; cell < 16; cell++) {
      Checks.due("measure of " + letters, x.measure(cell / 4, cell % 4), want[cell]);
    }
  }

  private static void dueHalved(String letters, int... want) {
    LaceTangles x = Checks.laid(letters);
    for (int cell = 0; cell < 16; cell++) {
      Checks.due("halved of " + letters, x.halved(cell / 4, cell % 4), want[cell]);
    }
  }

  private static void measure(Document d) {
    d.at("The measure");
    d.says("The measure is a table of 4 rows and 4 columns of numbers, 0 to 10006; all is reckoned modulo 10007 (from 0"
        + " on).", () -> {
          for (int drawn = 0; drawn < 40; drawn++) {
            LaceTangles x = drawn(drawn, 30);
            String letters = Checks.row(x);
            for (int cell = 0; cell < 16; cell++) {
              int number = x.measure(cell / 4, cell % 4);
              Checks.check("measure of " + letters + " has " + number, number >= 0 && number <= 10006);
            }
          }
          // the last product of AbB has a sum of just 10007, the others have some of a little less and of more
          dueMeasure("AbB", 0, 1, 0, 0, 5004, 5004, 0, 0, 0, 0, 1, 0, 0, 0, 0, 1);
          dueMeasure("Aa", 1, 0, 0, 0, 0, 1, 0, 0, 0, 0, 1, 0, 0, 0, 0, 1);
          dueMeasure("aa", 3, 10005, 0, 0, 10006, 2, 0, 0, 0, 0, 1, 0, 0, 0, 0, 1);
          dueMeasure("AA", 5004, 5004, 0, 0, 2502, 7506, 0, 0, 0, 0, 1, 0, 0, 0, 0, 1);
          dueMeasure("aaaa", 11, 9997, 0, 0, 10002, 6, 0, 0, 0, 0, 1, 0, 0, 0, 0, 1);
        });
    d.says("The table of no crossings has 1 where the row is the column, 0 elsewhere.",
        () -> dueMeasure("", 1, 0, 0, 0, 0, 1, 0, 0, 0, 0, 1, 0, 0, 0, 0, 1));
    d.says("The table of a crossing of the rank i is that, but in the rows and columns i less 1 and i: for the sign 1 the"
        + " row i less 1 has 10006 and 2, the row i has 1 and 0;", () -> {
          dueMeasure("a", 10006, 2, 0, 0, 1, 0, 0, 0, 0, 0, 1, 0, 0, 0, 0, 1);
          dueMeasure("b", 1, 0, 0, 0, 0, 10006, 2, 0, 0, 1, 0, 0, 0, 0, 0, 1);
          dueMeasure("c", 1, 0, 0, 0, 0, 1, 0, 0, 0, 0, 10006, 2, 0, 0, 1, 0);
        });
    d.says("for the sign -1 the row i less 1 has 0 and 1, the row i has 5004 and 5004.", () -> {
      dueMeasure("A", 0, 1, 0, 0, 5004, 5004, 0, 0, 0, 0, 1, 0, 0, 0, 0, 1);
      dueMeasure("B", 1, 0, 0, 0, 0, 0, 1, 0, 0, 5004, 5004, 0, 0, 0, 0, 1);
      dueMeasure("C", 1, 0, 0, 0, 0, 1, 0, 0, 0, 0, 0, 1, 0, 0, 5004, 5004);
    });
    d.says("The measure is the product of the tables of all crossings, in their order (the number in a row and a column of"
        + " the product of two tables is the sum, over all k, of the number in this row and the column k of the first one"
        + " times the number in the row k and this column of the second one).", () -> {
          dueMeasure("ab", 10006, 10005, 4, 0, 1, 0, 0, 0, 0, 1, 0, 0, 0, 0, 0, 1);
          dueMeasure("ba", 10006, 2, 0, 0, 10006, 0, 2, 0, 1, 0, 0, 0, 0, 0, 0, 1);
          dueMeasure("abc", 10006, 10005, 10003, 8, 1, 0, 0, 0, 0, 1, 0, 0, 0, 0, 1, 0);
        });
    d.says("The same by halves: of no crossing the table of none, of one its table;", () -> {
      dueHalved("", 1, 0, 0, 0, 0, 1, 0, 0, 0, 0, 1, 0, 0, 0, 0, 1);
      dueHalved("b", 1, 0, 0, 0, 0, 10006, 2, 0, 0, 1, 0, 0, 0, 0, 0, 1);
      dueHalved("C", 1, 0, 0, 0, 0, 1, 0, 0, 0, 0, 0, 1, 0, 0, 5004, 5004);
    });
    d.says("of more, the product of the measures of the first half (half as many, rounded down) and of the rest.", () -> {
      dueHalved("ab", 10006, 10005, 4, 0, 1, 0, 0, 0, 0, 1, 0, 0, 0, 0, 0, 1);
      dueHalved("ba", 10006, 2, 0, 0, 10006, 0, 2, 0, 1, 0, 0, 0, 0, 0, 0, 1);
      dueHalved("abc", 10006, 10005, 10003, 8, 1, 0, 0, 0, 0, 1, 0, 0, 0, 0, 1, 0);
      for (int many = 0; many <= 30; many++) {
        Checks.dueHalvesAsWhole(drawn(many, many));
      }
    });
  }

  /** So many crossings, always the same ones for a number. */
  private static LaceTangles drawn(int number, int many) {
    LaceTangles x = new LaceTangles();
    long seed = 12345L + 1000003L * number;
    for (int place = 0; place < many; place++) {
      seed = seed * 6364136223846793005L + 1442695040888963407L;
      x.cross(Checks.CROSSINGS[(int) ((seed >>> 33) % 6)]);
    }
    return x;
  }

  private static void winding(Document d) {
    d.at("Winding");
    d.says("Two laces wind round each other by the sum of the signs of the crossings in which these two change their"
        + " positions.", () -> {
          LaceTangles x = Checks.laid("abBAbcCa");
          // 0-1, 0-2, 0-2 back, 0-1 back, 1-2, 1-3, 1-3 back, 0-2
          int[][] want = {{100, 100, 101, 100}, {100, 100, 101, 100}, {101, 101, 100, 100}, {100, 100, 100, 100}};
          for (int lace = 0; lace < 4; lace++) {
            for (int other = 0; other < 4; other++) {
              Checks.due("winding(" + lace + ", " + other + ")", x.winding(lace, other), want[lace][other]);
            }
          }
          Checks.due("winding(0, 3) of abc", Checks.laid("abc").winding(0, 3), 101);
          Checks.due("winding(0, 3) of abC", Checks.laid("abC").winding(3, 0), 99);
          Checks.due("winding(1, 2) of abc", Checks.laid("abc").winding(1, 2), 100);
        });
    d.says("The twist of a tangle is the sum of all signs.", () -> {
      Checks.due("count(1) of none", new LaceTangles().count(1), 100);
      Checks.due("count(1) of aBCA", Checks.laid("aBCA").count(1), 98);
      Checks.due("turn() of aBCA", Checks.laid("aBCA").turn(), 102);
    });
  }

  private static void dueHandle(String letters, int begin, int end) {
    LaceTangles x = Checks.laid(letters);
    Checks.due("count(5) of " + letters, x.count(5), begin);
    Checks.due("count(6) of " + letters, x.count(6), end);
  }

  private static void dueUndone(String letters, String want) {
    LaceTangles x = Checks.laid(letters);
    x.handle();
    Checks.dueRow(x, want);
  }

  private static void handles(Document d) {
    d.at("Handles");
    d.says("A handle is a part of a tangle, from a place p to a place q, with crossings of the same rank i and unlike signs"
        + " at p and q,", () -> {
          for (int x : Checks.CROSSINGS) {
            for (int y : Checks.CROSSINGS) {
              dueHandle(Checks.letterOf(x) + Checks.letterOf(y), x == -y ? 0 : -1, x == -y ? 1 : -1);
            }
          }
          dueHandle("aba", -1, -1);
          dueHandle("b".repeat(28) + "Cc", 28, 29);
        });
    d.says("and none of the rank i or i less 1 between them.", () -> {
      for (String none : new String[] {"baB", "bAB", "Bab", "cbC", "cBC", "cbbC", "bcacB", "cabC", "CAbAc", "baaB"}) {
        dueHandle(none, -1, -1);
      }
      dueHandle("abA", 0, 2);
      dueHandle("acA", 0, 2);
      dueHandle("abccbA", 0, 5);
      dueHandle("Bcb", 0, 2);
      dueHandle("bcccB", 0, 4);
      dueHandle("caC", 0, 2);
      dueHandle("cAAAC", 0, 4);
      dueHandle("aacA", 1, 3);
      dueHandle("bbB", 1, 2);
    });
    d.says("The first handle is that with the least q.", () -> {
      dueHandle("aBcCA", 2, 3);
      dueHandle("abcAC", 0, 3);
      dueHandle("cabAC", 1, 3);
      dueHandle("baBAAbcA", 1, 3);
      dueHandle("abBA", 1, 2);
      dueHandle("aAaA", 0, 1);
    });
    d.says("It is undone like this: let e be the sign at p; the crossings at p and q are gone,", () -> {
      dueUndone("aA", "");
      dueUndone("Bb", "");
      dueUndone("bcCa", "ba");
      dueUndone("bacA", "bc");
      dueUndone("caaCb", "aab");
    });
    d.says("and each crossing between them of the rank i and 1, with the sign d, becomes three: one of the rank i and 1 with"
        + " the sign opposite to e, one of the rank i with the sign d, and one of the rank i and 1 with the sign e.", () -> {
          dueUndone("abA", "Bab");
          dueUndone("aBA", "BAb");
          dueUndone("Aba", "baB");
          dueUndone("ABa", "bAB");
          dueUndone("bcB", "Cbc");
          dueUndone("bCB", "CBc");
          dueUndone("Bcb", "cbC");
          dueUndone("BCb", "cBC");
          dueUndone("abcbA", "BabcBab");
          dueUndone("acbCA", "cBabC");
          dueUndone("cabABc", "cBabBc");
          dueUndone("aBBA", "BAbBAb");
        });
  }

  private static void untangling(Document d) {
    d.at("Handles");
    d.says("To untangle means to undo the first handle again and again, until there is none,", () -> {
      for (int number = 0; number < 60; number++) {
        LaceTangles x = drawn(number, 8);
        LaceTangles step = drawn(number, 8);
        int handles = 0;
        while (step.count(5) >= 0 && step.count(0) <= 30 && handles < 400) {
          step.handle();
          handles++;
        }
        String letters = Checks.row(x);
        Checks.due("untangled(1) of " + letters, x.untangled(1), handles);
        for (int place = 0; place <= step.count(0); place++) {
          Checks.due("left(" + place + ") of " + letters, x.left(place), step.crossing(place));
        }
      }
    });
    d.says("at most 600 times,", () -> {
      Checks.due("the most handles that are undone", WouldBeTests.handlesOfTheMost(), 600);
      Checks.due("one more", WouldBeTests.handlesOfTooMany(), -1);
    });
    d.says("and as long as no more than 400 crossings come of it.", () -> {
      Checks.due("the most crossings of 400", Inside.untangling("aa" + "b".repeat(133) + "A").answer(3), 400);
      Checks.due("the most crossings of 400 with others between",
          Inside.untangling("ac" + "b".repeat(133) + "A").answer(3), 400);
      Checks.due("the most crossings of 401", Inside.untangling("aaa" + "b".repeat(133) + "A").answer(3), -1);
      Checks.due("the most crossings of 402", Inside.untangling("a" + "b".repeat(134) + "A").answer(3), -1);
      Checks.due("the most crossings of 400 ahead", Inside.untangling("c".repeat(400)).answer(3), 400);
    });
    d.says("What is left has no handle; then all crossings of the lowest rank that occurs have the same sign: the tangle"
        + " leans by this sign;", () -> {
          for (int number = 0; number < 200; number++) {
            dueLeaning(drawn(number, 3 + number % 9));
          }
        });
    d.says("if none are left, it is no tangle.", () -> {
      Checks.due("untangled(2) of none", new LaceTangles().untangled(2), 0);
      Checks.due("untangled(2) of abaBAB", Checks.laid("abaBAB").untangled(2), 0);
      Checks.due("untangled(2) of abaBA", Checks.laid("abaBA").untangled(2), 1);
    });
  }

  private static void dueLeaning(LaceTangles x) {
    String letters = Checks.row(x);
    LaceTangles rest = new LaceTangles();
    for (int place = 0; place < x.untangled(0); place++) {
      rest.cross(x.left(place) - 10);
    }
    Checks.due("a handle in what is left of " + letters, rest.count(5), -1);
    String left = Checks.row(rest);
    int leaning = 0;
    for (int rank = 1; rank <= 3 && leaning == 0; rank++) {
      boolean plus = left.contains(Checks.letterOf(rank));
      boolean minus = left.contains(Checks.letterOf(-rank));
      Checks.check("both signs are left of " + letters, !plus || !minus);
      leaning = plus ? 1 : minus ? 2 : 0;
    }
    Checks.due("untangled(2) of " + letters, x.untangled(2), leaning);
  }

  private static Checks.Setup typedBehind(String letters, String text) {
    return x -> {
      Checks.lay(x, letters);
      Checks.type(x, text);
    };
  }

  private static LaceTangles typed(String text) {
    return Checks.made(x -> Checks.type(x, text));
  }

  private static void texts(Document d) {
    d.at("Input text");
    d.says("The buffer has at most 60 characters.", () -> {
      LaceTangles x = typed("a".repeat(60));
      Checks.refused(IllegalStateException.class, "the 61st", y -> Checks.type(y, "a".repeat(60)), y -> y.append('a'));
      Checks.due("clearBuffer()", x.clearBuffer(), 60);
    });
    d.says("A tangle as a text is one or more parts, each a letter: \"a\", \"b\", \"c\" (1, 2, 3), \"A\", \"B\" or \"C\""
        + " (-1, -2, -3),", () -> {
          String letters = "abcABC";
          for (int index = 0; index < 6; index++) {
            LaceTangles x = typed(letters.substring(index, index + 1));
            Checks.due("lace() of " + letters.charAt(index), x.lace(), 1);
            Checks.due("crossing(0)", x.crossing(0), 10 + Checks.CROSSINGS[index]);
          }
          for (int code = 33; code <= 126; code++) {
            LaceTangles x = new LaceTangles();
            x.append(code);
            Checks.due("firstError() of " + (char) code, x.firstError(), letters.indexOf(code) >= 0 ? 1 : 0);
          }
          Checks.refused(IllegalArgumentException.class, "lace() of no part", Checks.bare("ab"), LaceTangles::lace);
          LaceTangles parts = typed(letters);
          Checks.due("lace() of six parts", parts.lace(), 6);
          Checks.dueRow(parts, letters);
        });
    d.says("and perhaps a figure, 2 to 9, behind it (so many such crossings).", () -> {
      for (int code = 33; code <= 126; code++) {
        LaceTangles x = typed("B");
        x.append(code);
        boolean isFigure = code >= '2' && code <= '9';
        boolean isLetter = "abcABC".indexOf(code) >= 0;
        Checks.due("firstError() of B" + (char) code, x.firstError(), isFigure || isLetter ? 2 : 1);
        if (isFigure) {
          Checks.due("lace() of B" + (char) code, x.lace(), code - '0');
          Checks.dueRow(x, "B".repeat(code - '0'));
        }
      }
      Checks.due("firstError() of a23", typed("a23").firstError(), 2);
    });
    d.says("The buffer is read from left to right; a character is a syntax error if no tangle as a text, of any length,"
        + " begins with the characters before it and this character.", () -> {
          Object[][] texts = {{"a", 1}, {"aB3", 3}, {"3a", 0}, {"a33", 2}, {"aa3c0b", 4}, {"a?b?", 1}, {"?a", 0},
            {"a9".repeat(30), 60}, {"abc".repeat(20), 60}, {"a9".repeat(29) + "a1", 59}};
          for (Object[] text : texts) {
            Checks.due("firstError() of " + text[0], typed((String) text[0]).firstError(), (Integer) text[1]);
          }
        });
  }

  private static void dueSaves(String what, Checks.Setup setup, Checks.Call call, int more) {
    LaceTangles x = Checks.made(setup);
    int before = x.count(7);
    call.of(x);
    Checks.due("count(7) behind " + what, x.count(7), before + more);
  }

  /** The document has no heading of its own above these sentences. */
  private static void undo(Document d) {
    d.at("Input text");
    d.says("Each method that is marked \"undoable\"", () -> {
      Checks.Setup setup = y -> {
        Checks.few("cabA").on(y);
        y.clearBuffer();
        Checks.type(y, "a2");
      };
      dueSaves("cross(1)", setup, x -> x.cross(1), 1);
      dueSaves("open()", setup, LaceTangles::open, 1);
      dueSaves("move(1, 0)", setup, x -> x.move(1, 0), 1);
      dueSaves("pair(0, 1)", setup, x -> x.pair(0, 1), 1);
      dueSaves("pull()", setup, LaceTangles::pull, 1);
      dueSaves("turn()", setup, LaceTangles::turn, 1);
      dueSaves("handle()", setup, LaceTangles::handle, 1);
      dueSaves("lace()", setup, LaceTangles::lace, 1);
      dueSaves("restore()", setup, LaceTangles::restore, 1);
      dueSaves("append('a')", setup, x -> x.append('a'), 0);
      dueSaves("clearBuffer()", setup, LaceTangles::clearBuffer, 0);
      dueSaves("firstError()", setup, LaceTangles::firstError, 0);
      dueSaves("keep()", setup, LaceTangles::keep, 0);
      dueSaves("undo()", setup, LaceTangles::undo, -1);
    });
    d.says("and does not throw an exception", () -> {
      dueSaves("cross(0)", Checks.few("ab"), x -> Checks.answer(x, y -> y.cross(0)), 0);
      dueSaves("open() of none", Checks.few(""), x -> Checks.answer(x, LaceTangles::open), 0);
      dueSaves("move(0, 0)", Checks.few("ab"), x -> Checks.answer(x, y -> y.move(0, 0)), 0);
      dueSaves("pair(3, 1)", Checks.few("ab"), x -> Checks.answer(x, y -> y.pair(3, 1)), 0);
      dueSaves("handle() of none", Checks.few("ab"), x -> Checks.answer(x, LaceTangles::handle), 0);
      dueSaves("lace() of an error", Checks.few("ab"), x -> Checks.answer(x, LaceTangles::lace), 0);
      dueSaves("restore() of none", Checks.bare("ab"), x -> Checks.answer(x, LaceTangles::restore), 0);
      dueSaves("undo() of none", Checks.few(""), x -> Checks.answer(x, LaceTangles::undo), 0);
    });
    d.says("saves the state from before it (also if it changes nothing):", () -> {
      Checks.undoable("pull() without a pair", Checks.few("abc"), LaceTangles::pull);
      Checks.undoable("turn() of none", Checks.few(""), LaceTangles::turn);
      Checks.undoable("restore() of what is so", Checks.few(""), LaceTangles::restore);
      LaceTangles x = Checks.laid("a".repeat(30));
      Checks.type(x, "b");
      x.lace();
      x.open();
      x.undo();
      x.undo();
      Checks.due("count(0) behind undo() of lace() of none", x.count(0), 30);
      Checks.due("count(7) behind it", x.count(7), 4);
    });
    d.says("all, also what is counted so far,", () -> {
      LaceTangles x = Checks.laid("cabA");
      x.handle();
      x.move(2, 1);
      Checks.due("count(2)", x.count(2), 2);
      x.undo();
      Checks.due("count(2) behind undo() of move()", x.count(2), 1);
      Checks.dueRow(x, "cBab");
      x.undo();
      Checks.due("count(2) behind undo() of handle()", x.count(2), 0);
      Checks.dueRow(x, "cabA");
      x.keep();
      x.move(1, 0);
      x.restore();
      Checks.due("count(2) behind restore()", x.count(2), 0);
      x.undo();
      Checks.due("count(2) behind undo() of restore()", x.count(2), 1);
    });
    d.says("but the buffer,", () -> {
      LaceTangles x = Checks.laid("a");
      Checks.type(x, "b2");
      x.cross(2);
      x.append('?');
      x.undo();
      Checks.due("firstError() behind undo()", x.firstError(), 2);
      Checks.due("clearBuffer() behind undo()", x.clearBuffer(), 3);
      Checks.type(x, "c3");
      x.lace();
      x.undo();
      Checks.due("clearBuffer() behind undo() of lace()", x.clearBuffer(), 0);
      Checks.dueRow(x, "a");
      x.keep();
      Checks.type(x, "A");
      x.restore();
      Checks.due("clearBuffer() behind restore()", x.clearBuffer(), 1);
    });
    d.says("the saved states", () -> {
      LaceTangles x = Checks.laid("abc");
      x.undo();
      Checks.due("count(7) behind undo()", x.count(7), 2);
      x.keep();
      Checks.lay(x, "CB");
      x.restore();
      Checks.due("count(7) behind restore()", x.count(7), 5);
      for (String want : new String[] {"abCB", "abC", "ab", "a", ""}) {
        x.undo();
        Checks.dueRow(x, want);
      }
    });
    d.says("and the snapshot.", () -> {
      LaceTangles x = Checks.laid("ab");
      x.keep();
      x.cross(3);
      x.keep();
      x.undo();
      Checks.dueRow(x, "ab");
      x.restore();
      Checks.dueRow(x, "abc");
      LaceTangles none = Checks.laid("a");
      none.keep();
      none.undo();
      Checks.due("restore() behind undo() to before the first keep()", none.restore(), 1);
    });
    d.says("At most 6 states are saved; the oldest one is dropped first.", () -> {
      LaceTangles x = Checks.laid("abcABCa");
      Checks.due("count(7) of seven", x.count(7), 6);
      for (int left = 5; left >= 0; left--) {
        Checks.due("undo()", x.undo(), left);
        Checks.dueRow(x, "abcABCa".substring(0, left + 1));
      }
      Checks.refused(IllegalStateException.class, "undo() of what was dropped", y -> {
        Checks.lay(y, "abcABCa");
        for (int times = 0; times < 6; times++) {
          y.undo();
        }
      }, LaceTangles::undo);
      // the states that are saved go round: again and again some are taken back and others saved
      LaceTangles round = Checks.laid("abcab");
      for (int times = 0; times < 20; times++) {
        round.undo();
        round.undo();
        Checks.lay(round, "CBA");
      }
      // of each round but the last one "C" stays
      Checks.dueRow(round, "abc" + "C".repeat(20) + "BA");
      Checks.due("count(7) of rounds", round.count(7), 6);
      String row = Checks.row(round);
      for (int times = 1; times <= 6; times++) {
        round.undo();
        Checks.dueRow(round, row.substring(0, row.length() - times));
      }
    });
  }

  private static void exceptions(Document d, Path classFile) {
    d.at("Exceptions");
    d.says("A call that throws an exception changes nothing.", () -> {
      Checks.badArgument("abA", "cross(4)", x -> x.cross(4));
      Checks.badArgument("abA", "move(3, 0)", x -> x.move(3, 0));
      Checks.badState("abA", "move(0, 0)", x -> x.move(0, 0));
      Checks.badArgument("abA", "pair(4, 1)", x -> x.pair(4, 1));
      Checks.badState("ab", "handle()", LaceTangles::handle);
      Checks.badArgument("abA", "append(32)", x -> x.append(32));
      Checks.refused(IllegalArgumentException.class, "lace()", Checks.busy("abA"), LaceTangles::lace);
      Checks.refused(IllegalStateException.class, "undo()", x -> Checks.type(x, "a"), LaceTangles::undo);
      Checks.refused(IllegalStateException.class, "restore()", typedBehind("abA", "a2"), LaceTangles::restore);
      Checks.refused(IllegalStateException.class, "same()", typedBehind("abA", "a2"), LaceTangles::same);
      Checks.badArgument("abA", "crossing(-1)", x -> x.crossing(-1));
      Checks.badIndex("abA", "lies(0, 4)", x -> x.lies(0, 4));
      Checks.badArgument("abA", "lies(4, 0)", x -> x.lies(4, 0));
      Checks.badIndex("abA", "winding(4, 0)", x -> x.winding(4, 0));
      Checks.badIndex("abA", "measure(4, 0)", x -> x.measure(4, 0));
      Checks.badIndex("abA", "halved(4, 0)", x -> x.halved(4, 0));
      Checks.badArgument("abA", "count(8)", x -> x.count(8));
      Checks.badArgument("abA", "whyNot(3, 0)", x -> x.whyNot(3, 0));
      Checks.badArgument("abA", "untangled(4)", x -> x.untangled(4));
      Checks.badArgument("abA", "left(-1)", x -> x.left(-1));
      Checks.badArgument("abA", "possible(3)", x -> x.possible(3));
    });
    d.says("If several exceptions apply, the one that is named first in the throws clause is thrown.", () -> {
      String full = "a".repeat(30);
      Checks.badArgument(full, "cross(0) without room", x -> x.cross(0));
      Checks.badArgument("", "move(3, 0), which is not possible,", x -> x.move(3, 0));
      Checks.badArgument("", "move(0, -1), which is not possible,", x -> x.move(0, -1));
      Checks.badArgument(full, "pair(31, 1) without room", x -> x.pair(31, 1));
      Checks.badArgument(full, "pair(0, 4) without room", x -> x.pair(0, 4));
      Checks.refused(IllegalArgumentException.class, "append(127) without room", x -> Checks.type(x, "a".repeat(60)),
          x -> x.append(127));
      Checks.badIndex("ab", "lies(3, 4)", x -> x.lies(3, 4));
      Checks.badIndex("ab", "lies(-1, -1)", x -> x.lies(-1, -1));
    });
    d.says("The constants: `NONE = -1`: There is nothing to return.", () -> {
      Checks.due("NONE", LaceTangles.NONE, -1);
      Checks.due("crossing(0)", new LaceTangles().crossing(0), LaceTangles.NONE);
      Checks.due("bestMove()", new LaceTangles().bestMove(), LaceTangles.NONE);
      Checks.due("left(0)", new LaceTangles().left(0), LaceTangles.NONE);
    });
    headings(d, classFile);
  }

  private static void headings(Document d, Path classFile) {
    String[][] groups = {
      {"crossings", "cross", "open", "move", "pair", "pull", "turn", "handle"},
      {"texts", "append", "clearBuffer", "firstError", "lace"},
      {"undo, the snapshot", "undo", "keep", "restore"},
      {"looks; nothing is changed", "crossing", "lies", "winding", "measure", "halved", "count", "whyNot"},
      {"what would be; nothing is changed", "untangled", "left", "same", "possible", "bestMove", "slack", "digest"},
    };
    for (String[] group : groups) {
      StringBuilder names = new StringBuilder();
      for (int index = 1; index < group.length; index++) {
        names.append(index > 1 ? ", `" : "`").append(group[index]).append('`');
      }
      d.says("Ahead of the calls " + names + " the interface says: ---- " + group[0] + ".", () -> {
        String text = textOf(classFile);
        int heading = text.indexOf("// ---- " + group[0] + "\n");
        Checks.check("the class does not say so", heading >= 0);
        int next = text.indexOf("// ----", heading + 1);
        for (int index = 1; index < group.length; index++) {
          int call = text.indexOf(" " + group[index] + "(", text.indexOf("public ", heading));
          Checks.check(group[index] + " stands elsewhere", call > heading && (next < 0 || call < next));
        }
      });
    }
  }

  private static String textOf(Path file) {
    try {
      return Files.readString(file);
    } catch (IOException e) {
      throw new IllegalStateException(e);
    }
  }
}
