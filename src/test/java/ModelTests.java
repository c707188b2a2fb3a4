import java.util.ArrayList;
import java.util.List;

/** Runs of calls, drawn from a fixed row of numbers, on LaceTangles and on Model: both must answer alike. */
public final class ModelTests {
  private interface Call {
    Object of();
  }

  private static int passed = 0;
  private static int failed = 0;

  private final List<String> told = new ArrayList<>();
  private final LaceTangles real = new LaceTangles();
  private final Model model = new Model();
  private final int kind;
  private long seed;
  private boolean differs = false;

  private ModelTests(int number) {
    seed = 0x5DEECE66DL * (number + 1);
    kind = number % 6;
  }

  private int draw(int bound) {
    seed = seed * 6364136223846793005L + 1442695040888963407L;
    return (int) Math.floorMod(seed >>> 33, (long) bound);
  }

  private static String answer(Call call) {
    try {
      return String.valueOf(call.of());
    } catch (RuntimeException e) {
      return "throws." + e.getClass().getSimpleName();
    }
  }

  private void both(String text, Call ours, Call theirs) {
    String got = answer(ours);
    String want = answer(theirs);
    told.add(text + " -> " + got);
    if (!got.equals(want) && !differs) {
      differs = true;
      System.out.println("run of kind " + kind + ": " + told + " but due is " + want);
    }
  }

  private int crossing() {
    return draw(12) == 0 ? pick(0, 4, -4, Integer.MIN_VALUE, Integer.MAX_VALUE) : pick(1, 2, 3, -1, -2, -3);
  }

  private int place() {
    return draw(15) == 0 ? pick(-1, Integer.MIN_VALUE, Integer.MAX_VALUE, Integer.MAX_VALUE - 1, 60) : draw(model.count(0) + 2);
  }

  private int four() {
    return draw(8) == 0 ? pick(-1, 4, Integer.MIN_VALUE, Integer.MAX_VALUE) : draw(4);
  }

  private int three() {
    return draw(12) == 0 ? pick(-1, 3, Integer.MIN_VALUE, Integer.MAX_VALUE) : draw(3);
  }

  private int code() {
    if (kind == 5) {
      return draw(20) == 0 ? pick(32, 127, 33, 126, -1, 353) : "abcABC23456789"
          .charAt(draw(14));
    }
    int what = draw(40);
    if (what == 0) {
      return pick(32, 127, 0, -97, Integer.MIN_VALUE, Integer.MAX_VALUE, 97 + 65536, 97 + 256);
    }
    if (what == 1) {
      return pick('1', '0', ':', 'd', 'D', '`', '@', '!', '~');
    }
    return what < 30 ? "abcABC".charAt(draw(6)) : '2' + draw(8);
  }

  private int pick(int... numbers) {
    return numbers[draw(numbers.length)];
  }

  private void changeOnce() {
    switch (draw(kind == 0 ? 22 : 26)) {
      case 0, 1, 2, 3, 4, 5 -> cross(crossing());
      case 6 -> both("open()", real::open, model::open);
      case 7, 8, 9, 10 -> move(three(), place());
      case 11, 12 -> pair(place(), crossing());
      case 13 -> {
        if (kind == 2) {
          both("pull()", real::pull, model::pull);
        }
      }
      case 14 -> both("turn()", real::turn, model::turn);
      case 15, 16 -> both("handle()", real::handle, model::handle);
      case 17 -> {
        for (int times = draw(kind == 5 ? 70 : 8); times >= 0; times--) {
          append(code());
        }
      }
      case 18 -> {
        if (draw(4) == 0) {
          both("clearBuffer()", real::clearBuffer, model::clearBuffer);
        }
      }
      case 19 -> {
        both("firstError()", real::firstError, model::firstError);
        both("lace()", real::lace, model::lace);
        if (draw(2) == 0) {
          both("clearBuffer()", real::clearBuffer, model::clearBuffer);
        }
      }
      case 20 -> both("undo()", real::undo, model::undo);
      case 21 -> both("keep()", real::keep, model::keep);
      case 22 -> both("restore()", real::restore, model::restore);
      case 23 -> {
        for (int times = draw(9); times >= 0; times--) {
          both("undo()", real::undo, model::undo);
        }
      }
      default -> cross(pick(1, -2, 1, -2, 3));
    }
  }

  private void cross(int crossing) {
    both("cross(" + crossing + ")", () -> real.cross(crossing), () -> model.cross(crossing));
  }

  private void move(int move, int place) {
    both("move(" + move + ", " + place + ")", () -> real.move(move, place), () -> model.move(move, place));
  }

  private void pair(int place, int crossing) {
    both("pair(" + place + ", " + crossing + ")", () -> real.pair(place, crossing), () -> model.pair(place, crossing));
  }

  private void append(int code) {
    both("append(" + code + ")", () -> real.append(code), () -> model.append(code));
  }

  private void lookOnce() {
    int one = four();
    int two = four();
    int move = three();
    int place = place();
    int what = draw(10) - 1;
    both("crossing(" + place + ")", () -> real.crossing(place), () -> model.crossing(place));
    both("lies(" + place + ", " + one + ")", () -> real.lies(place, one), () -> model.lies(place, one));
    both("winding(" + one + ", " + two + ")", () -> real.winding(one, two), () -> model.winding(one, two));
    both("measure(" + one + ", " + two + ")", () -> real.measure(one, two), () -> model.measure(one, two));
    both("halved(" + one + ", " + two + ")", () -> real.halved(one, two), () -> model.halved(one, two));
    both("count(" + what + ")", () -> real.count(what), () -> model.count(what));
    both("whyNot(" + move + ", " + place + ")", () -> real.whyNot(move, place), () -> model.whyNot(move, place));
    both("untangled(" + one + ")", () -> real.untangled(one), () -> model.untangled(one));
    both("left(" + place + ")", () -> real.left(place), () -> model.left(place));
    both("same()", real::same, model::same);
    both("possible(" + move + ")", () -> real.possible(move), () -> model.possible(move));
    both("bestMove()", real::bestMove, model::bestMove);
    both("slack()", real::slack, model::slack);
    both("firstError()", real::firstError, model::firstError);
  }

  private void run(int calls) {
    while (told.size() < calls && !differs) {
      changeOnce();
      if (draw(3) == 0) {
        both("digest()", real::digest, model::digest);
      }
      if (draw(6) == 0) {
        lookOnce();
      }
    }
    both("digest()", real::digest, model::digest);
    if (differs) {
      failed++;
    } else {
      passed++;
    }
  }

  public static void main(String[] args) {
    for (int number = 0; number < 1200; number++) {
      new ModelTests(number).run(420);
    }
    System.out.println("ModelTests: " + passed + " passed, " + failed + " failed");
    if (failed != 0) {
      System.exit(1);
    }
  }
}
