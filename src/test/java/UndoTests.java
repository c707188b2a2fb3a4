/** Promises 13 to 15: undo, and the snapshot. */
final class UndoTests {
  private UndoTests() {}

  static void say(Document d) {
    undo(d);
    keep(d);
    restore(d);
  }

  private static void undo(Document d) {
    d.at("Promise 13: undo");
    d.says("Restores the latest saved state, and drops it.", () -> {
      LaceTangles x = Checks.laid("abC");
      x.undo();
      Checks.dueRow(x, "ab");
      x.undo();
      Checks.dueRow(x, "a");
      x.cross(3);
      x.undo();
      Checks.dueRow(x, "a");
      x.undo();
      Checks.dueRow(x, "");
      LaceTangles moved = Checks.laid("aAc");
      moved.move(0, 0);
      moved.turn();
      moved.undo();
      Checks.dueCounts(moved, 1, 101, 1);
      moved.undo();
      Checks.dueRow(moved, "aAc");
      Checks.due("count(2) of before the move", moved.count(2), 0);
    });
    d.says("Returns how many saved states are left.", () -> {
      LaceTangles x = Checks.laid("abcabcab");
      for (int left = 5; left >= 0; left--) {
        Checks.due("undo()", x.undo(), left);
        Checks.due("count(7)", x.count(7), left);
      }
      Checks.due("undo() of the only one", Checks.laid("a").undo(), 0);
    });
    d.says("Throws `IllegalStateException` if there is none", () -> {
      Checks.refused(IllegalStateException.class, "undo() of a new one", x -> {}, LaceTangles::undo);
      Checks.refused(IllegalStateException.class, "undo() with a snapshot and a buffer", x -> {
        x.keep();
        Checks.type(x, "a2");
      }, LaceTangles::undo);
      Checks.refused(IllegalStateException.class, "undo() behind all", x -> {
        Checks.lay(x, "ab");
        x.keep();
        x.undo();
        x.undo();
      }, LaceTangles::undo);
      Checks.refused(IllegalStateException.class, "a seventh undo()", x -> {
        Checks.lay(x, "abcabcab");
        for (int times = 0; times < 6; times++) {
          x.undo();
        }
      }, LaceTangles::undo);
    });
  }

  private static void keep(Document d) {
    d.at("Promise 14: keep");
    d.says("Takes a snapshot,", () -> {
      LaceTangles x = Checks.laid("aAb");
      x.move(0, 0);
      x.keep();
      Checks.dueRow(x, "b");
      x.cross(3);
      x.turn();
      x.restore();
      Checks.dueRow(x, "b");
      Checks.due("count(2) of the snapshot", x.count(2), 1);
      LaceTangles none = new LaceTangles();
      none.keep();
      none.cross(1);
      none.restore();
      Checks.dueRow(none, "");
      LaceTangles full = Checks.laid("abC".repeat(10));
      full.keep();
      full.open();
      full.restore();
      Checks.dueRow(full, "abC".repeat(10));
    });
    d.says("in place of the one before.", () -> {
      LaceTangles x = Checks.laid("ab");
      x.keep();
      x.cross(3);
      x.keep();
      x.open();
      x.open();
      x.restore();
      Checks.dueRow(x, "abc");
      LaceTangles shorter = Checks.laid("abc");
      shorter.keep();
      shorter.open();
      shorter.open();
      shorter.keep();
      Checks.lay(shorter, "CC");
      shorter.restore();
      Checks.dueRow(shorter, "a");
    });
    d.says("Returns how many crossings there are.", () -> {
      Checks.due("keep() of none", new LaceTangles().keep(), 0);
      Checks.due("keep() of two", Checks.laid("ab").keep(), 2);
      Checks.due("keep() of 30", Checks.laid("a".repeat(30)).keep(), 30);
    });
  }

  private static void restore(Document d) {
    d.at("Promise 15: restore");
    d.says("Restores the state of the snapshot,", () -> {
      LaceTangles x = Checks.laid("cab");
      x.move(1, 0);
      x.keep();
      x.move(1, 0);
      x.cross(1);
      Checks.due("count(2)", x.count(2), 2);
      x.restore();
      Checks.dueRow(x, "acb");
      Checks.due("count(2) of the snapshot", x.count(2), 1);
      Checks.due("count(7), which is not of the snapshot", x.count(7), 6);
      Checks.due("crossing(3), which the snapshot has not", x.crossing(3), -1);
    });
    d.says("which stays.", () -> {
      LaceTangles x = Checks.laid("ab");
      x.keep();
      for (int times = 0; times < 3; times++) {
        x.cross(3);
        Checks.due("restore()", x.restore(), 2);
        Checks.dueRow(x, "ab");
        Checks.due("same()", x.same(), 1);
      }
    });
    d.says("Undoable.", () -> {
      Checks.undoable("restore()", Checks.few("abC"), LaceTangles::restore);
      Checks.undoable("restore() of what is so", Checks.few(""), LaceTangles::restore);
      Checks.undoable("restore() of moves", x -> {
        Checks.lay(x, "ac");
        x.move(1, 0);
        x.keep();
        x.move(1, 0);
      }, LaceTangles::restore);
    });
    d.says("Returns how many crossings there are then.", () -> {
      for (int many : new int[] {0, 1, 30}) {
        LaceTangles x = Checks.laid("b".repeat(many));
        x.keep();
        if (many > 0) {
          x.open();
        } else {
          x.cross(1);
        }
        Checks.due("restore() of " + many, x.restore(), many);
      }
    });
    d.says("Throws `IllegalStateException` if there is no snapshot", () -> {
      Checks.refused(IllegalStateException.class, "restore()", x -> {}, LaceTangles::restore);
      Checks.refused(IllegalStateException.class, "restore() with saved states and a buffer", x -> {
        Checks.lay(x, "abA");
        x.handle();
        Checks.type(x, "a2");
      }, LaceTangles::restore);
    });
  }
}
