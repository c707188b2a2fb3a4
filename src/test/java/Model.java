import java.util.ArrayDeque;
import java.util.ArrayList;
import java.util.Collections;
import java.util.Deque;
import java.util.List;

/** The document told again, as slowly and as literally as it can be: what LaceTangles is held against. */
final class Model {
  private record Saved(List<Integer> crossings, int moves) {}

  private record Part(int begin, int end) {}

  private record Rest(List<Integer> crossings, int undone, int most) {}

  private List<Integer> crossings = new ArrayList<>();
  private int moves = 0;
  private String buffer = "";
  private final Deque<Saved> saved = new ArrayDeque<>();
  private Saved snapshot = null;

  private void save() {
    saved.addLast(state());
    if (saved.size() > 6) {
      saved.removeFirst();
    }
  }

  private Saved state() {
    return new Saved(List.copyOf(crossings), moves);
  }

  private void bringBack(Saved state) {
    crossings = new ArrayList<>(state.crossings());
    moves = state.moves();
  }

  private static void argument(boolean fine) {
    if (!fine) {
      throw new IllegalArgumentException();
    }
  }

  private static void state(boolean fine) {
    if (!fine) {
      throw new IllegalStateException();
    }
  }

  private static void index(boolean fine) {
    if (!fine) {
      throw new IndexOutOfBoundsException();
    }
  }

  private static boolean isCrossing(int crossing) {
    return List.of(-3, -2, -1, 1, 2, 3).contains(crossing);
  }

  private static boolean isMove(int move) {
    return List.of(0, 1, 2).contains(move);
  }

  private static boolean isFour(int number) {
    return List.of(0, 1, 2, 3).contains(number);
  }

  private static int rank(int crossing) {
    return Math.abs(crossing);
  }

  private static int sign(int crossing) {
    return Integer.signum(crossing);
  }

  private static int twist(List<Integer> row) {
    return row.stream().mapToInt(Model::sign).sum();
  }

  int cross(int crossing) {
    argument(isCrossing(crossing));
    state(crossings.size() < 30);
    save();
    crossings.add(crossing);
    return crossings.size();
  }

  int open() {
    state(!crossings.isEmpty());
    save();
    return crossings.remove(crossings.size() - 1) + 10;
  }

  int move(int move, int place) {
    argument(isMove(move) && place >= 0);
    state(why(crossings, move, place) == 0);
    save();
    crossings = moved(crossings, move, place);
    moves++;
    return crossings.size();
  }

  int pair(int place, int crossing) {
    argument(place >= 0 && place <= crossings.size() && isCrossing(crossing));
    state(crossings.size() <= 28);
    save();
    crossings.addAll(place, List.of(crossing, -crossing));
    return crossings.size();
  }

  int pull() {
    save();
    int before = crossings.size();
    crossings = pulled(crossings);
    return before - crossings.size();
  }

  int turn() {
    save();
    crossings = turned(crossings);
    return twist(crossings) + 100;
  }

  int handle() {
    Part part = firstHandle(crossings);
    state(part != null && without(crossings, part).size() <= 30);
    save();
    crossings = without(crossings, part);
    moves++;
    return crossings.size();
  }

  int append(int code) {
    argument(code >= 33 && code <= 126);
    state(buffer.length() < 60);
    buffer += (char) code;
    return buffer.length();
  }

  int clearBuffer() {
    int had = buffer.length();
    buffer = "";
    return had;
  }

  int firstError() {
    for (int end = 1; end <= buffer.length(); end++) {
      if (!buffer.substring(0, end).matches("([abcABC][2-9]?)+")) {
        return end - 1;
      }
    }
    return buffer.length();
  }

  int lace() {
    argument(buffer.matches("([abcABC][2-9]?)+"));
    save();
    int put = 0;
    for (String part : buffer.split("(?=[abcABC])")) {
      int crossing = "CBA abc".indexOf(part.charAt(0)) - 3;
      int times = part.length() == 1 ? 1 : Integer.parseInt(part.substring(1));
      for (int i = 0; i < times && crossings.size() < 30; i++) {
        crossings.add(crossing);
        put++;
      }
    }
    buffer = "";
    return put;
  }

  int undo() {
    state(!saved.isEmpty());
    bringBack(saved.removeLast());
    return saved.size();
  }

  int keep() {
    snapshot = state();
    return crossings.size();
  }

  int restore() {
    state(snapshot != null);
    save();
    bringBack(snapshot);
    return crossings.size();
  }

  int crossing(int place) {
    argument(place >= 0);
    return place < crossings.size() ? crossings.get(place) + 10 : -1;
  }

  int lies(int many, int position) {
    index(isFour(position));
    argument(many >= 0 && many <= crossings.size());
    List<Integer> lying = new ArrayList<>(List.of(0, 1, 2, 3));
    for (int crossing : crossings.subList(0, many)) {
      Collections.swap(lying, rank(crossing) - 1, rank(crossing));
    }
    return lying.get(position);
  }

  int winding(int lace, int other) {
    index(isFour(lace) && isFour(other));
    int sum = 0;
    for (int place = 0; place < crossings.size(); place++) {
      int crossing = crossings.get(place);
      int one = lies(place, rank(crossing) - 1);
      int two = lies(place, rank(crossing));
      if ((one == lace && two == other) || (one == other && two == lace)) {
        sum += sign(crossing);
      }
    }
    return sum + 100;
  }

  int measure(int row, int column) {
    index(isFour(row) && isFour(column));
    long[][] table = tableOf(List.of());
    for (int crossing : crossings) {
      table = product(table, tableOf(List.of(crossing)));
    }
    return (int) table[row][column];
  }

  int halved(int row, int column) {
    index(isFour(row) && isFour(column));
    return (int) byHalves(crossings)[row][column];
  }

  int count(int what) {
    argument(what >= 0 && what <= 7);
    Part part = firstHandle(crossings);
    return switch (what) {
      case 0 -> crossings.size();
      case 1 -> twist(crossings) + 100;
      case 2 -> moves;
      case 3 -> (int) crossings.stream().filter(crossing -> crossing > 0).count();
      case 4 -> crossings.stream().mapToInt(crossing -> 1 << rank(crossing)).reduce(0, (a, b) -> a | b);
      case 5 -> part == null ? -1 : part.begin();
      case 6 -> part == null ? -1 : part.end();
      default -> saved.size();
    };
  }

  int whyNot(int move, int place) {
    argument(isMove(move) && place >= 0);
    return why(crossings, move, place);
  }

  int untangled(int what) {
    argument(isFour(what));
    Rest rest = rest(crossings);
    if (rest == null) {
      return -1;
    }
    return switch (what) {
      case 0 -> rest.crossings().size();
      case 1 -> rest.undone();
      case 2 -> leaning(rest.crossings());
      default -> rest.most();
    };
  }

  int left(int place) {
    argument(place >= 0);
    Rest rest = rest(crossings);
    return rest == null || place >= rest.crossings().size() ? -1 : rest.crossings().get(place) + 10;
  }

  int same() {
    state(snapshot != null);
    List<Integer> both = turned(snapshot.crossings());
    both.addAll(crossings);
    Rest rest = rest(both);
    return rest == null ? -1 : rest.crossings().isEmpty() ? 1 : 0;
  }

  int possible(int move) {
    argument(isMove(move));
    return places(crossings, move);
  }

  int bestMove() {
    for (int move = 1; move <= 2; move++) {
      for (int place = 0; place < crossings.size(); place++) {
        if (why(crossings, move, place) == 0
            && places(moved(crossings, move, place), 0) > places(crossings, 0)) {
          return 31 * move + place;
        }
      }
    }
    return -1;
  }

  double slack() {
    int all = crossings.size();
    return all == 0 ? 0.0 : (double) (all - pulled(crossings).size()) / all;
  }

  long digest() {
    List<Long> values = new ArrayList<>();
    for (int what = 0; what <= 7; what++) {
      values.add((long) count(what));
    }
    crossings.forEach(crossing -> values.add(crossing + 10L));
    for (int position = 0; position <= 3; position++) {
      values.add((long) lies(crossings.size(), position));
    }
    for (int[] two : new int[][] {{0, 1}, {0, 2}, {0, 3}, {1, 2}, {1, 3}, {2, 3}}) {
      values.add((long) winding(two[0], two[1]));
    }
    for (int row = 0; row <= 3; row++) {
      for (int column = 0; column <= 3; column++) {
        values.add((long) measure(row, column));
        values.add((long) halved(row, column));
      }
    }
    for (int what = 0; what <= 3; what++) {
      values.add((long) untangled(what));
    }
    for (int place = 0; place <= 5; place++) {
      values.add((long) left(place));
    }
    for (int move = 0; move <= 2; move++) {
      values.add((long) possible(move));
    }
    values.add((long) bestMove());
    values.add(Double.doubleToLongBits(slack()));
    values.add((long) buffer.length());
    buffer.chars().forEach(code -> values.add((long) code));
    long hash = 3673;
    for (long value : values) {
      hash = 31 * hash + value;
    }
    return hash;
  }

  private static int why(List<Integer> row, int move, int place) {
    long behind = (long) row.size() - place;
    if (behind < (move == 2 ? 3 : 2)) {
      return 1;
    }
    int x = row.get(place);
    int y = row.get(place + 1);
    if (move == 0) {
      return rank(x) != rank(y) ? 2 : sign(x) == sign(y) ? 3 : 0;
    }
    if (move == 1) {
      return List.of(List.of(1, 3), List.of(3, 1)).contains(List.of(rank(x), rank(y))) ? 0 : 2;
    }
    int z = row.get(place + 2);
    if (rank(x) != rank(z) || Math.abs(rank(x) - rank(y)) != 1) {
      return 2;
    }
    return sign(x) == sign(z) && sign(x) == -sign(y) ? 3 : 0;
  }

  private static List<Integer> moved(List<Integer> row, int move, int place) {
    List<Integer> result = new ArrayList<>(row.subList(0, place));
    int x = row.get(place);
    int y = row.get(place + 1);
    if (move == 1) {
      result.addAll(List.of(y, x));
    }
    if (move == 2) {
      int z = row.get(place + 2);
      int i = rank(x);
      int k = rank(y);
      result.addAll(List.of(k * sign(z), i * sign(y), k * sign(x)));
    }
    result.addAll(row.subList(place + (move == 2 ? 3 : 2), row.size()));
    return result;
  }

  private static int places(List<Integer> row, int move) {
    int found = 0;
    for (int place = 0; place < row.size(); place++) {
      found += why(row, move, place) == 0 ? 1 : 0;
    }
    return found;
  }

  private static List<Integer> pulled(List<Integer> row) {
    List<Integer> result = new ArrayList<>(row);
    boolean again = true;
    while (again) {
      again = false;
      for (int place = 0; place + 1 < result.size() && !again; place++) {
        if (why(result, 0, place) == 0) {
          result = moved(result, 0, place);
          again = true;
        }
      }
    }
    return result;
  }

  private static List<Integer> turned(List<Integer> row) {
    List<Integer> result = new ArrayList<>();
    row.forEach(crossing -> result.add(0, -crossing));
    return result;
  }

  private static Part firstHandle(List<Integer> row) {
    for (int q = 0; q < row.size(); q++) {
      for (int p = 0; p < q; p++) {
        int i = rank(row.get(q));
        boolean bare = row.subList(p + 1, q).stream().noneMatch(c -> rank(c) == i || rank(c) == i - 1);
        if (row.get(p) == -row.get(q) && bare) {
          return new Part(p, q);
        }
      }
    }
    return null;
  }

  private static List<Integer> without(List<Integer> row, Part part) {
    int i = rank(row.get(part.begin()));
    int e = sign(row.get(part.begin()));
    List<Integer> result = new ArrayList<>(row.subList(0, part.begin()));
    for (int crossing : row.subList(part.begin() + 1, part.end())) {
      int d = sign(crossing);
      result.addAll(rank(crossing) == i + 1 ? List.of(-e * (i + 1), d * i, e * (i + 1)) : List.of(crossing));
    }
    result.addAll(row.subList(part.end() + 1, row.size()));
    return result;
  }

  private static Rest rest(List<Integer> row) {
    List<Integer> now = row;
    int undone = 0;
    int most = row.size();
    for (Part part = firstHandle(now); part != null; part = firstHandle(now)) {
      if (undone == 600) {
        return null;
      }
      now = without(now, part);
      undone++;
      if (now.size() > 400) {
        return null;
      }
      most = Math.max(most, now.size());
    }
    return new Rest(now, undone, most);
  }

  private static int leaning(List<Integer> rest) {
    for (int rank = 1; rank <= 3; rank++) {
      if (rest.contains(rank)) {
        return 1;
      }
      if (rest.contains(-rank)) {
        return 2;
      }
    }
    return 0;
  }

  private static long[][] tableOf(List<Integer> noneOrOne) {
    long[][] table = {{1, 0, 0, 0}, {0, 1, 0, 0}, {0, 0, 1, 0}, {0, 0, 0, 1}};
    for (int crossing : noneOrOne) {
      int i = rank(crossing);
      table[i - 1][i - 1] = crossing > 0 ? 10006 : 0;
      table[i - 1][i] = crossing > 0 ? 2 : 1;
      table[i][i - 1] = crossing > 0 ? 1 : 5004;
      table[i][i] = crossing > 0 ? 0 : 5004;
    }
    return table;
  }

  private static long[][] byHalves(List<Integer> row) {
    if (row.size() < 2) {
      return tableOf(row);
    }
    int half = row.size() / 2;
    return product(byHalves(row.subList(0, half)), byHalves(row.subList(half, row.size())));
  }

  private static long[][] product(long[][] one, long[][] two) {
    long[][] result = new long[4][4];
    for (int row = 0; row < 4; row++) {
      for (int column = 0; column < 4; column++) {
        for (int k = 0; k < 4; k++) {
          result[row][column] += one[row][k] * two[k][column];
        }
        result[row][column] %= 10007;
      }
    }
    return result;
  }
}
