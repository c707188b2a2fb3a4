/** What the document says in its first lines, "What it is", part by part. */
final class WhatItIsTests {
  private WhatItIsTests() {}

  static void say(Document d) {
    d.at("What it is");
    crossings(d);
    looks(d);
    untangling(d);
    textsAndUndo(d);
    manyCalls(d);
  }

  private static void crossings(Document d) {
    d.says("Shoelace tangles undone by moves that keep a measure:", () -> {
      LaceTangles x = Checks.laid("acabA");
      String measure = measureOf(x);
      Checks.check("the measure is that of none", !measure.equals(measureOf(new LaceTangles())));
      x.handle();
      x.move(1, 0);
      Checks.dueRow(x, "caBab");
      Checks.check("the measure is another one behind moves", measureOf(x).equals(measure));
    });
    d.says("four laces side by side,", () -> {
      LaceTangles x = new LaceTangles();
      for (int position = 0; position < 4; position++) {
        Checks.due("lies(0, " + position + ")", x.lies(0, position), position);
      }
      Checks.badIndex("", "lies(0, 4)", y -> y.lies(0, 4));
    });
    d.says("crossings in a row, each of two neighbours and over to one side or the other,", () -> {
      for (int crossing : Checks.CROSSINGS) {
        LaceTangles x = Checks.laid(Checks.letterOf(crossing));
        int right = Math.abs(crossing);
        Checks.due("the lace from the right of " + crossing, x.lies(1, right - 1), right);
        Checks.due("the lace from the left of " + crossing, x.lies(1, right), right - 1);
        Checks.due("the side of " + crossing, x.count(1), crossing > 0 ? 101 : 99);
      }
    });
    d.says("pairs that cancel,", () -> dueMove("bcCa", 0, 1, "ba"));
    d.says("pairs that are put in,", () -> {
      LaceTangles x = Checks.laid("ba");
      Checks.due("pair(1, 3)", x.pair(1, 3), 4);
      Checks.dueRow(x, "bcCa");
    });
    d.says("far crossings that change places,", () -> dueMove("baCb", 1, 1, "bCab"));
    d.says("moves of three crossings,", () -> dueMove("abcBa", 2, 1, "aCbca"));
    d.says("reasons against moves,", () -> {
      LaceTangles x = Checks.laid("aab");
      Checks.due("whyNot(0, 2)", x.whyNot(0, 2), 1);
      Checks.due("whyNot(0, 1)", x.whyNot(0, 1), 2);
      Checks.due("whyNot(0, 0)", x.whyNot(0, 0), 3);
    });
  }

  private static void dueMove(String letters, int move, int place, String want) {
    LaceTangles x = Checks.laid(letters);
    Checks.due("move(" + move + ", " + place + ") of " + letters, x.move(move, place), want.length());
    Checks.dueRow(x, want);
  }

  private static void looks(Document d) {
    d.says("what lies where behind each crossing,", () -> {
      LaceTangles x = Checks.laid("cBa");
      String[] want = {"0123", "0132", "0312", "3012"};
      for (int many = 0; many <= 3; many++) {
        for (int position = 0; position < 4; position++) {
          Checks.due("lies(" + many + ", " + position + ")", x.lies(many, position), want[many].charAt(position) - '0');
        }
      }
    });
    d.says("how often two laces wind round each other,", () -> {
      LaceTangles x = Checks.laid("cccBB");
      Checks.due("winding(2, 3)", x.winding(2, 3), 103);
      Checks.due("winding(1, 3)", x.winding(1, 3), 98);
      Checks.due("winding(1, 2)", x.winding(1, 2), 100);
    });
    d.says("a measure by a table of numbers that all moves keep,", () -> {
      LaceTangles x = Checks.laid("acbCBABA");
      String measure = measureOf(x);
      for (int move = 0; move <= 2; move++) {
        for (int place = 0; place < 8; place++) {
          if (x.whyNot(move, place) == 0) {
            x.move(move, place);
            Checks.check("the measure is another one behind move(" + move + ", " + place + ")",
                measureOf(x).equals(measure));
            x.undo();
          }
        }
      }
      x.cross(2);
      Checks.check("the measure is the same behind a crossing", !measureOf(x).equals(measure));
    });
    d.says("the same measure by halves that must agree,", () -> Checks.dueHalvesAsWhole(Checks.laid("abCBacBAcb")));
  }

  private static String measureOf(LaceTangles x) {
    StringBuilder numbers = new StringBuilder();
    for (int cell = 0; cell < 16; cell++) {
      numbers.append(x.measure(cell / 4, cell % 4)).append(' ');
    }
    return numbers.toString();
  }

  private static void untangling(Document d) {
    d.says("pulling at the ends until no pair is left,", () -> {
      LaceTangles x = Checks.laid("bacCAab");
      Checks.due("pull()", x.pull(), 4);
      Checks.dueRow(x, "bab");
    });
    d.says("handles that are undone one by one,", () -> {
      LaceTangles x = Checks.laid("abbAcC");
      Checks.due("the first handle()", x.handle(), 8);
      Checks.dueRow(x, "BabBabcC");
      Checks.due("the second handle()", x.handle(), 6);
      Checks.dueRow(x, "BaabcC");
      Checks.due("the third handle()", x.handle(), 4);
      Checks.dueRow(x, "Baab");
      Checks.badState("Baab", "handle()", LaceTangles::handle);
    });
    d.says("what is left of a tangle,", () -> {
      LaceTangles x = Checks.laid("abbAcC");
      int[] left = {8, 11, 11, 12, -1};
      for (int place = 0; place < left.length; place++) {
        Checks.due("left(" + place + ")", x.left(place), left[place]);
      }
      Checks.due("untangled(0)", x.untangled(0), 4);
    });
    d.says("tangles that are no tangle,", () -> {
      Checks.due("untangled(2) of bcbCBC", Checks.laid("bcbCBC").untangled(2), 0);
      Checks.due("untangled(2) of acAC", Checks.laid("acAC").untangled(2), 0);
    });
    d.says("the side to which a tangle leans,", () -> {
      Checks.due("untangled(2) of cB", Checks.laid("cB").untangled(2), 2);
      Checks.due("untangled(2) of Cb", Checks.laid("Cb").untangled(2), 1);
    });
    d.says("tangles that are the same,", () -> {
      LaceTangles x = Checks.laid("cbC");
      x.keep();
      x.pull();
      x.turn();
      Checks.due("same() turned over", x.same(), 0);
      x.turn();
      x.pair(2, -1);
      Checks.due("same() with a pair", x.same(), 1);
    });
  }

  private static void textsAndUndo(Document d) {
    d.says("tangles as texts with errors by place,", () -> {
      LaceTangles x = new LaceTangles();
      Checks.type(x, "c2Ab44");
      Checks.due("firstError()", x.firstError(), 5);
      x.clearBuffer();
      Checks.type(x, "c2Ab4");
      Checks.due("lace()", x.lace(), 7);
      Checks.dueRow(x, "ccAbbbb");
    });
    d.says("undo,", () -> {
      LaceTangles x = Checks.laid("ac");
      x.turn();
      Checks.due("undo()", x.undo(), 2);
      Checks.dueRow(x, "ac");
    });
    d.says("and one snapshot.", () -> {
      LaceTangles x = Checks.laid("ac");
      x.keep();
      x.cross(2);
      x.keep();
      x.turn();
      Checks.due("restore()", x.restore(), 3);
      Checks.dueRow(x, "acb");
    });
  }

  private static void manyCalls(Document d) {
    d.says("An object is used for at most 512 calls after it has been made; what later calls answer is free.", () -> {
      LaceTangles x = new LaceTangles();
      x.keep();
      Checks.lay(x, "acb");
      for (int call = 5; call <= 508; call++) {
        x.move(1, 0);
      }
      Checks.due("count(2), the 509th call,", x.count(2), 504);
      Checks.due("undo(), the 510th call,", x.undo(), 5);
      Checks.due("restore(), the 511th call,", x.restore(), 0);
      Checks.due("cross(2), the 512th call,", x.cross(2), 1);
      LaceTangles asked = Checks.laid("abA");
      long digest = asked.digest();
      for (int call = 5; call < 512; call++) {
        asked.digest();
      }
      Checks.due("digest(), the 512th call,", asked.digest(), digest);
    });
  }
}
