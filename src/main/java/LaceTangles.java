/**
 * Shoelace tangles: four laces side by side and a row of crossings. ../shared/DOC.md says what each
 * call must do; what it rules is not told again here.
 *
 * <p>All rows that a call works in are made once, in the constructors, and used again: no call makes
 * an object but for the exception that it throws.
 */
public final class LaceTangles {
    public static final int NONE = -1;

    private static final int LACES = 4;
    private static final int RANKS = 3;
    private static final int MOST_CROSSINGS = 30;
    private static final int MOST_SAVED = 6;
    private static final int MOST_CHARACTERS = 60;
    private static final int LEAST_CODE = 33;
    private static final int MOST_CODE = 126;
    private static final int MOST_HANDLES = 600;
    private static final int MOST_UNTANGLED = 400;

    private static final int CANCEL = 0;
    private static final int FAR = 1;
    private static final int THREE = 2;
    private static final int MOVE_STEP = 31;

    private static final int FITS = 0;
    private static final int TOO_FEW = 1;
    private static final int RANKS_UNFIT = 2;
    private static final int SIGNS_UNFIT = 3;

    private static final int COUNTS = 8;
    private static final int UNTANGLED_ANSWERS = 4;
    private static final int LEFT_IN_DIGEST = 6;
    private static final long FIRST_HASH = 3673L;

    /** Added to crossings that are answered, so that none is taken for NONE. */
    private static final int CROSSING_OFFSET = 10;
    /** Added to sums of signs that are answered, so that none is taken for NONE. */
    private static final int SUM_OFFSET = 100;

    private final State now;
    private final State kept;
    private boolean isKept;
    private final History history;
    private final Text text;
    private final Laces laces;
    private final Measures measures;
    private final Handle first;
    private final Untangler untangler;
    private final Row trial;

    public LaceTangles() {
        now = new State();
        kept = new State();
        isKept = false;
        history = new History();
        text = new Text();
        laces = new Laces();
        measures = new Measures();
        first = new Handle();
        untangler = new Untangler();
        trial = new Row(MOST_CROSSINGS);
    }

    // ---- crossings

    public int cross(int crossing) throws IllegalArgumentException, IllegalStateException {
        if (!isCrossing(crossing)) {
            throw new IllegalArgumentException("no such crossing");
        }
        if (now.row.length >= MOST_CROSSINGS) {
            throw new IllegalStateException("no room for a crossing");
        }
        history.save(now);
        now.row.add(crossing);
        return now.row.length;
    }

    public int open() throws IllegalStateException {
        if (now.row.length == 0) {
            throw new IllegalStateException("no crossing to take off");
        }
        history.save(now);
        int last = now.row.at(now.row.length - 1);
        now.row.length--;
        return last + CROSSING_OFFSET;
    }

    public int move(int move, int place) throws IllegalArgumentException, IllegalStateException {
        if (!isMove(move) || place < 0) {
            throw new IllegalArgumentException("no such move or place");
        }
        if (Moves.reasonAgainst(now.row, move, place) != FITS) {
            throw new IllegalStateException("the move is not possible");
        }
        history.save(now);
        Moves.make(now.row, move, place);
        now.moves++;
        return now.row.length;
    }

    public int pair(int place, int crossing) throws IllegalArgumentException, IllegalStateException {
        if (place < 0 || place > now.row.length || !isCrossing(crossing)) {
            throw new IllegalArgumentException("no such place or crossing");
        }
        if (now.row.length + 2 > MOST_CROSSINGS) {
            throw new IllegalStateException("no room for a pair");
        }
        history.save(now);
        now.row.insertPair(place, crossing);
        return now.row.length;
    }

    public int pull() {
        history.save(now);
        return now.row.cancelAll();
    }

    public int turn() {
        history.save(now);
        trial.empty();
        trial.addTurned(now.row);
        now.row.become(trial);
        return now.row.twist() + SUM_OFFSET;
    }

    public int handle() throws IllegalStateException {
        if (!first.findIn(now.row)) {
            throw new IllegalStateException("there is no handle");
        }
        if (first.lengthWithout(now.row) > MOST_CROSSINGS) {
            throw new IllegalStateException("no room for what comes of the handle");
        }
        history.save(now);
        first.takeOut(now.row, trial);
        now.row.become(trial);
        now.moves++;
        return now.row.length;
    }

    // ---- texts

    public int append(int code) throws IllegalArgumentException, IllegalStateException {
        if (code < LEAST_CODE || code > MOST_CODE) {
            throw new IllegalArgumentException("no such character");
        }
        if (text.length >= MOST_CHARACTERS) {
            throw new IllegalStateException("the buffer is full");
        }
        text.add(code);
        return text.length;
    }

    public int clearBuffer() {
        int had = text.length;
        text.length = 0;
        return had;
    }

    public int firstError() {
        return text.firstWrong();
    }

    public int lace() throws IllegalArgumentException {
        if (!text.isTangle()) {
            throw new IllegalArgumentException("the buffer is not a tangle as a text");
        }
        history.save(now);
        int before = now.row.length;
        text.putBehind(now.row);
        text.length = 0;
        return now.row.length - before;
    }

    // ---- undo, the snapshot

    public int undo() throws IllegalStateException {
        if (history.saved == 0) {
            throw new IllegalStateException("no saved state");
        }
        history.takeBack(now);
        return history.saved;
    }

    public int keep() {
        kept.become(now);
        isKept = true;
        return now.row.length;
    }

    public int restore() throws IllegalStateException {
        if (!isKept) {
            throw new IllegalStateException("no snapshot");
        }
        history.save(now);
        now.become(kept);
        return now.row.length;
    }

    // ---- looks; nothing is changed

    public int crossing(int place) throws IllegalArgumentException {
        if (place < 0) {
            throw new IllegalArgumentException("no such place");
        }
        return crossingOrNone(now.row, place);
    }

    public int lies(int many, int position) throws IndexOutOfBoundsException, IllegalArgumentException {
        if (!isLace(position)) {
            throw new IndexOutOfBoundsException("no such position");
        }
        if (many < 0 || many > now.row.length) {
            throw new IllegalArgumentException("not so many crossings");
        }
        laces.follow(now.row, many);
        return laces.laceAt(position);
    }

    public int winding(int lace, int other) throws IndexOutOfBoundsException {
        if (!isLace(lace) || !isLace(other)) {
            throw new IndexOutOfBoundsException("no such lace");
        }
        laces.follow(now.row, now.row.length);
        return laces.sumOf(lace, other) + SUM_OFFSET;
    }

    public int measure(int row, int column) throws IndexOutOfBoundsException {
        if (!isLace(row) || !isLace(column)) {
            throw new IndexOutOfBoundsException("no such row or column");
        }
        measures.reckonInOrder(now.row);
        return measures.inOrder(row, column);
    }

    public int halved(int row, int column) throws IndexOutOfBoundsException {
        if (!isLace(row) || !isLace(column)) {
            throw new IndexOutOfBoundsException("no such row or column");
        }
        measures.reckonByHalves(now.row);
        return measures.byHalves(row, column);
    }

    public int count(int what) throws IllegalArgumentException {
        if (what < 0 || what >= COUNTS) {
            throw new IllegalArgumentException("no such count");
        }
        return countOf(what);
    }

    public int whyNot(int move, int place) throws IllegalArgumentException {
        if (!isMove(move) || place < 0) {
            throw new IllegalArgumentException("no such move or place");
        }
        return Moves.reasonAgainst(now.row, move, place);
    }

    // ---- what would be; nothing is changed

    public int untangled(int what) throws IllegalArgumentException {
        if (what < 0 || what >= UNTANGLED_ANSWERS) {
            throw new IllegalArgumentException("no such answer");
        }
        untangleNow();
        return untangler.answer(what);
    }

    public int left(int place) throws IllegalArgumentException {
        if (place < 0) {
            throw new IllegalArgumentException("no such place");
        }
        untangleNow();
        return untangler.leftAt(place);
    }

    public int same() throws IllegalStateException {
        if (!isKept) {
            throw new IllegalStateException("no snapshot");
        }
        untangler.begin();
        untangler.work.addTurned(kept.row);
        untangler.work.addAll(now.row);
        untangler.untangle();
        if (!untangler.isEnough) {
            return NONE;
        }
        return untangler.work.length == 0 ? 1 : 0;
    }

    public int possible(int move) throws IllegalArgumentException {
        if (!isMove(move)) {
            throw new IllegalArgumentException("no such move");
        }
        return Moves.placesFor(now.row, move);
    }

    public int bestMove() {
        int pairsNow = Moves.placesFor(now.row, CANCEL);
        for (int move = FAR; move <= THREE; move++) {
            for (int place = 0; place < now.row.length; place++) {
                if (Moves.reasonAgainst(now.row, move, place) == FITS
                        && pairsBehind(move, place) > pairsNow) {
                    return MOVE_STEP * move + place;
                }
            }
        }
        return NONE;
    }

    public double slack() {
        int all = now.row.length;
        if (all == 0) {
            return 0.0;
        }
        trial.become(now.row);
        return (double) trial.cancelAll() / (double) all;
    }

    public long digest() {
        long hash = FIRST_HASH;
        for (int what = 0; what < COUNTS; what++) {
            hash = mixed(hash, countOf(what));
        }
        for (int place = 0; place < now.row.length; place++) {
            hash = mixed(hash, crossingOrNone(now.row, place));
        }
        hash = withLaces(hash);
        hash = withMeasures(hash);
        hash = withUntangled(hash);
        for (int move = CANCEL; move <= THREE; move++) {
            hash = mixed(hash, Moves.placesFor(now.row, move));
        }
        hash = mixed(hash, bestMove());
        hash = mixed(hash, bitsOfShare(slack()));
        hash = mixed(hash, text.length);
        for (int index = 0; index < text.length; index++) {
            hash = mixed(hash, text.codeAt(index));
        }
        return hash;
    }

    private long withLaces(long before) {
        long hash = before;
        laces.follow(now.row, now.row.length);
        for (int position = 0; position < LACES; position++) {
            hash = mixed(hash, laces.laceAt(position));
        }
        for (int lace = 0; lace < LACES; lace++) {
            for (int other = lace + 1; other < LACES; other++) {
                hash = mixed(hash, laces.sumOf(lace, other) + SUM_OFFSET);
            }
        }
        return hash;
    }

    private long withMeasures(long before) {
        long hash = before;
        measures.reckonInOrder(now.row);
        measures.reckonByHalves(now.row);
        for (int row = 0; row < LACES; row++) {
            for (int column = 0; column < LACES; column++) {
                hash = mixed(hash, measures.inOrder(row, column));
                hash = mixed(hash, measures.byHalves(row, column));
            }
        }
        return hash;
    }

    private long withUntangled(long before) {
        long hash = before;
        untangleNow();
        for (int what = 0; what < UNTANGLED_ANSWERS; what++) {
            hash = mixed(hash, untangler.answer(what));
        }
        for (int place = 0; place < LEFT_IN_DIGEST; place++) {
            hash = mixed(hash, untangler.leftAt(place));
        }
        return hash;
    }

    private static long mixed(long hash, long value) {
        return 31L * hash + value;
    }

    /** Reckoned by hand, since LANGUAGE.md has no library for it; a share lies from 0 to 1. */
    private static long bitsOfShare(double share) {
        if (share <= 0.0) {
            return 0L;
        }
        double mantissa = share;
        long exponent = 1023L;
        for (int halvings = 0; halvings < 64 && mantissa < 1.0; halvings++) {
            mantissa = mantissa * 2.0;
            exponent--;
        }
        return (exponent << 52) + (long) ((mantissa - 1.0) * 4503599627370496.0);
    }

    private int countOf(int what) {
        switch (what) {
            case 0:
                return now.row.length;
            case 1:
                return now.row.twist() + SUM_OFFSET;
            case 2:
                return now.moves;
            case 3:
                return now.row.overFromLeft();
            case 4:
                return now.row.rankMask();
            case 5:
                first.findIn(now.row);
                return first.begin;
            case 6:
                first.findIn(now.row);
                return first.end;
            default:
                return history.saved;
        }
    }

    private int pairsBehind(int move, int place) {
        trial.become(now.row);
        Moves.make(trial, move, place);
        return Moves.placesFor(trial, CANCEL);
    }

    private void untangleNow() {
        untangler.begin();
        untangler.work.addAll(now.row);
        untangler.untangle();
    }

    private static int crossingOrNone(Row row, int place) {
        return place < row.length ? row.at(place) + CROSSING_OFFSET : NONE;
    }

    private static boolean isMove(int move) {
        return move >= CANCEL && move <= THREE;
    }

    private static boolean isLace(int number) {
        return number >= 0 && number < LACES;
    }

    private static boolean isCrossing(int number) {
        return number >= -RANKS && number <= RANKS && number != 0;
    }

    private static int rankOf(int crossing) {
        return crossing < 0 ? -crossing : crossing;
    }

    private static int signOf(int crossing) {
        return crossing < 0 ? -1 : 1;
    }

    /** A row of crossings with room for so many. */
    private static final class Row {
        private final int[] cells;
        private int length;

        Row(int room) {
            cells = new int[room < 0 ? 0 : room];
            length = 0;
        }

        /** 0, which is no crossing, where there is none: so no place can be wrong. */
        int at(int place) {
            return place >= 0 && place < length && place < cells.length ? cells[place] : 0;
        }

        void put(int place, int crossing) {
            if (place >= 0 && place < length && place < cells.length) {
                cells[place] = crossing;
            }
        }

        /** Answers false, and changes nothing, if there is no room. */
        boolean add(int crossing) {
            if (length < 0 || length >= cells.length) {
                return false;
            }
            cells[length] = crossing;
            length++;
            return true;
        }

        void addAll(Row other) {
            for (int place = 0; place < other.length; place++) {
                add(other.at(place));
            }
        }

        void addTurned(Row other) {
            for (int place = other.length - 1; place >= 0; place--) {
                add(-other.at(place));
            }
        }

        void empty() {
            length = 0;
        }

        void become(Row other) {
            empty();
            addAll(other);
        }

        void insertPair(int place, int crossing) {
            if (!add(0) || !add(0)) {
                return;
            }
            for (int moved = length - 1; moved >= place + 2; moved--) {
                put(moved, at(moved - 2));
            }
            put(place, crossing);
            put(place + 1, -crossing);
        }

        void removePair(int place) {
            for (int moved = place; moved + 2 < length; moved++) {
                put(moved, at(moved + 2));
            }
            length = length < 2 ? 0 : length - 2;
        }

        /** Cancels till no pair is left; which pairs go first makes no difference to what stays. */
        int cancelAll() {
            int before = length;
            empty();
            for (int place = 0; place < before && place < cells.length; place++) {
                int crossing = cells[place];
                if (length > 0 && at(length - 1) == -crossing) {
                    length--;
                } else {
                    add(crossing);
                }
            }
            return before - length;
        }

        int twist() {
            return 2 * overFromLeft() - length;
        }

        int overFromLeft() {
            int found = 0;
            for (int place = 0; place < length; place++) {
                if (at(place) > 0) {
                    found++;
                }
            }
            return found;
        }

        int rankMask() {
            int mask = 0;
            for (int place = 0; place < length; place++) {
                mask = mask | (1 << rankOf(at(place)));
            }
            return mask;
        }

        /** The sign of the first crossing of the lowest rank that occurs, 0 without any crossing. */
        int signOfLowestRank() {
            int lowest = 0;
            for (int place = 0; place < length; place++) {
                if (lowest == 0 || rankOf(at(place)) < rankOf(lowest)) {
                    lowest = at(place);
                }
            }
            return lowest == 0 ? 0 : signOf(lowest);
        }
    }

    /** All that undo and the snapshot bring back. */
    private static final class State {
        private final Row row;
        private int moves;

        State() {
            row = new Row(MOST_CROSSINGS);
            moves = 0;
        }

        void become(State other) {
            row.become(other.row);
            moves = other.moves;
        }
    }

    /** The saved states, in a ring, so that the oldest one is dropped by being written over. */
    private static final class History {
        private final State[] ring;
        private int next;
        private int saved;

        History() {
            ring = new State[MOST_SAVED];
            for (int slot = 0; slot < MOST_SAVED; slot++) {
                ring[slot] = new State();
            }
            next = 0;
            saved = 0;
        }

        void save(State state) {
            State slot = slotAt(next);
            if (slot == null) {
                return;
            }
            slot.become(state);
            next = (next + 1) % MOST_SAVED;
            saved = saved < MOST_SAVED ? saved + 1 : MOST_SAVED;
        }

        void takeBack(State state) {
            int latest = (next + MOST_SAVED - 1) % MOST_SAVED;
            State slot = slotAt(latest);
            if (slot == null || saved == 0) {
                return;
            }
            state.become(slot);
            next = latest;
            saved--;
        }

        private State slotAt(int index) {
            return index >= 0 && index < ring.length ? ring[index] : null;
        }
    }

    /** The buffer. */
    private static final class Text {
        private final int[] codes;
        private int length;

        Text() {
            codes = new int[MOST_CHARACTERS];
            length = 0;
        }

        void add(int code) {
            if (length >= 0 && length < codes.length) {
                codes[length] = code;
                length++;
            }
        }

        int codeAt(int index) {
            return index >= 0 && index < length && index < codes.length ? codes[index] : 0;
        }

        int firstWrong() {
            boolean behindLetter = false;
            for (int index = 0; index < length; index++) {
                if (crossingOf(codeAt(index)) != 0) {
                    behindLetter = true;
                } else if (behindLetter && figureOf(codeAt(index)) != 0) {
                    behindLetter = false;
                } else {
                    return index;
                }
            }
            return length;
        }

        /** A part may end behind its letter, so what has no error lacks nothing, if it is not empty. */
        boolean isTangle() {
            return length > 0 && firstWrong() == length;
        }

        void putBehind(Row row) {
            for (int index = 0; index < length; index++) {
                int crossing = crossingOf(codeAt(index));
                if (crossing != 0) {
                    int figure = figureOf(codeAt(index + 1));
                    addTimes(row, crossing, figure == 0 ? 1 : figure);
                }
            }
        }

        private static void addTimes(Row row, int crossing, int times) {
            for (int time = 0; time < times; time++) {
                row.add(crossing);
            }
        }

        /** 0 if the character is none of the letters. */
        private static int crossingOf(int code) {
            if (code >= 'a' && code <= 'c') {
                return code - 'a' + 1;
            }
            return code >= 'A' && code <= 'C' ? 'A' - 1 - code : 0;
        }

        /** 0 if the character is none of the figures. */
        private static int figureOf(int code) {
            return code >= '2' && code <= '9' ? code - '0' : 0;
        }
    }

    /** What lies where, and who winds round whom, behind the crossings that were followed. */
    private static final class Laces {
        private final int[] lying;
        private final int[] sums;

        Laces() {
            lying = new int[LACES];
            sums = new int[LACES * LACES];
        }

        void follow(Row row, int many) {
            for (int lace = 0; lace < LACES; lace++) {
                lying[lace] = lace;
            }
            for (int cell = 0; cell < LACES * LACES; cell++) {
                sums[cell] = 0;
            }
            for (int place = 0; place < many && place < row.length; place++) {
                change(row.at(place));
            }
        }

        private void change(int crossing) {
            int rank = rankOf(crossing);
            if (rank < 1 || rank > RANKS) {
                return;
            }
            int fromLeft = lying[rank - 1];
            int fromRight = lying[rank];
            lying[rank - 1] = fromRight;
            lying[rank] = fromLeft;
            addTo(fromLeft, fromRight, signOf(crossing));
            addTo(fromRight, fromLeft, signOf(crossing));
        }

        private void addTo(int lace, int other, int sign) {
            if (isLace(lace) && isLace(other)) {
                sums[lace * LACES + other] += sign;
            }
        }

        int laceAt(int position) {
            return isLace(position) ? lying[position] : NONE;
        }

        int sumOf(int lace, int other) {
            return isLace(lace) && isLace(other) ? sums[lace * LACES + other] : 0;
        }
    }

    /** The measure of a row, reckoned in two ways. A table is a row of numbers, row by row. */
    private static final class Measures {
        private static final int MODULUS = 10007;
        private static final int CELLS = LACES * LACES;
        /** 30 crossings are halved five times until single ones are left. */
        private static final int LEVELS = 8;

        private final int[] product;
        private final int[] factor;
        private final int[] result;
        /** Two tables for each level: those of the two halves at work there. */
        private final int[][] halves;

        Measures() {
            product = new int[CELLS];
            factor = new int[CELLS];
            result = new int[CELLS];
            halves = new int[2 * LEVELS][CELLS];
        }

        void reckonInOrder(Row row) {
            fillWithNone(product);
            for (int place = 0; place < row.length; place++) {
                fillWithOne(row.at(place), factor);
                multiply(product, factor, result);
                for (int cell = 0; cell < CELLS; cell++) {
                    product[cell] = result[cell];
                }
            }
        }

        void reckonByHalves(Row row) {
            halve(row, 0, row.length, 0, 0, halves);
        }

        int inOrder(int row, int column) {
            return isLace(row) && isLace(column) ? product[row * LACES + column] : 0;
        }

        int byHalves(int row, int column) {
            return isLace(row) && isLace(column) ? halves[0][row * LACES + column] : 0;
        }

        /** The halves of a level use the tables of the next one, so the first half outlives the rest. */
        private static void halve(Row row, int from, int to, int level, int slot, int[][] tables) {
            if (level >= LEVELS || slot < 0 || slot >= tables.length) {
                return;
            }
            if (to - from <= 0) {
                fillWithNone(tables[slot]);
                return;
            }
            if (to - from == 1) {
                fillWithOne(row.at(from), tables[slot]);
                return;
            }
            int middle = from + (to - from) / 2;
            int firstSlot = 2 * (level + 1);
            if (firstSlot + 1 >= tables.length) {
                return;
            }
            halve(row, from, middle, level + 1, firstSlot, tables);
            halve(row, middle, to, level + 1, firstSlot + 1, tables);
            multiply(tables[firstSlot], tables[firstSlot + 1], tables[slot]);
        }

        private static void fillWithNone(int[] table) {
            for (int cell = 0; cell < table.length; cell++) {
                table[cell] = cell % (LACES + 1) == 0 ? 1 : 0;
            }
        }

        private static void fillWithOne(int crossing, int[] table) {
            fillWithNone(table);
            int rank = rankOf(crossing);
            if (rank < 1 || rank > RANKS || table.length < CELLS) {
                return;
            }
            int upper = (rank - 1) * LACES + rank - 1;
            int lower = upper + LACES;
            if (crossing > 0) {
                table[upper] = MODULUS - 1;
                table[upper + 1] = 2;
                table[lower] = 1;
                table[lower + 1] = 0;
            } else {
                table[upper] = 0;
                table[upper + 1] = 1;
                table[lower] = 5004;
                table[lower + 1] = 5004;
            }
        }

        private static void multiply(int[] one, int[] other, int[] result) {
            if (one.length < CELLS || other.length < CELLS || result.length < CELLS) {
                return;
            }
            for (int row = 0; row < LACES; row++) {
                for (int column = 0; column < LACES; column++) {
                    int sum = 0;
                    for (int k = 0; k < LACES; k++) {
                        sum += one[row * LACES + k] * other[k * LACES + column];
                    }
                    result[row * LACES + column] = sum % MODULUS;
                }
            }
        }
    }

    /** The three moves on any row. */
    private static final class Moves {
        private Moves() {
        }

        static int reasonAgainst(Row row, int move, int place) {
            int needed = move == THREE ? 3 : 2;
            if (place > row.length - needed) {
                return TOO_FEW;
            }
            int x = row.at(place);
            int y = row.at(place + 1);
            switch (move) {
                case CANCEL:
                    return againstCancel(x, y);
                case FAR:
                    return rankOf(x) + rankOf(y) == 4 && rankOf(x) != rankOf(y) ? FITS : RANKS_UNFIT;
                default:
                    return againstThree(x, y, row.at(place + 2));
            }
        }

        private static int againstCancel(int x, int y) {
            if (rankOf(x) != rankOf(y)) {
                return RANKS_UNFIT;
            }
            return signOf(x) == signOf(y) ? SIGNS_UNFIT : FITS;
        }

        private static int againstThree(int x, int y, int z) {
            int step = rankOf(x) - rankOf(y);
            if (rankOf(x) != rankOf(z) || (step != 1 && step != -1)) {
                return RANKS_UNFIT;
            }
            return signOf(x) == signOf(z) && signOf(x) != signOf(y) ? SIGNS_UNFIT : FITS;
        }

        /** Asks for a move that is possible. */
        static void make(Row row, int move, int place) {
            int x = row.at(place);
            int y = row.at(place + 1);
            if (move == CANCEL) {
                row.removePair(place);
            } else if (move == FAR) {
                row.put(place, y);
                row.put(place + 1, x);
            } else {
                int z = row.at(place + 2);
                row.put(place, signOf(z) * rankOf(y));
                row.put(place + 1, signOf(y) * rankOf(x));
                row.put(place + 2, signOf(x) * rankOf(y));
            }
        }

        static int placesFor(Row row, int move) {
            int found = 0;
            for (int place = 0; place < row.length; place++) {
                if (reasonAgainst(row, move, place) == FITS) {
                    found++;
                }
            }
            return found;
        }
    }

    /** The first handle of the row that was looked through last. */
    private static final class Handle {
        /** Where each rank was met last; that of rank 0 stays NONE, so rank 1 needs no own rule. */
        private final int[] last;
        private int begin;
        private int end;

        Handle() {
            last = new int[RANKS + 1];
            begin = NONE;
            end = NONE;
        }

        /** From the last crossing of its rank on, none of that rank can lie between. */
        boolean findIn(Row row) {
            forget();
            for (int place = 0; place < row.length; place++) {
                int crossing = row.at(place);
                int rank = rankOf(crossing);
                if (rank < 1 || rank > RANKS) {
                    continue;
                }
                int before = last[rank];
                if (before != NONE && row.at(before) == -crossing && last[rank - 1] < before) {
                    begin = before;
                    end = place;
                    return true;
                }
                last[rank] = place;
            }
            return false;
        }

        private void forget() {
            begin = NONE;
            end = NONE;
            for (int rank = 0; rank <= RANKS; rank++) {
                last[rank] = NONE;
            }
        }

        int lengthWithout(Row row) {
            int above = rankOf(row.at(begin)) + 1;
            int length = row.length - 2;
            for (int place = begin + 1; place < end; place++) {
                if (rankOf(row.at(place)) == above) {
                    length += 2;
                }
            }
            return length;
        }

        void takeOut(Row from, Row to) {
            int rank = rankOf(from.at(begin));
            int sign = signOf(from.at(begin));
            to.empty();
            for (int place = 0; place < from.length; place++) {
                int crossing = from.at(place);
                if (place == begin || place == end) {
                    continue;
                }
                if (place > begin && place < end && rankOf(crossing) == rank + 1) {
                    to.add(-sign * (rank + 1));
                    to.add(signOf(crossing) * rank);
                    to.add(sign * (rank + 1));
                } else {
                    to.add(crossing);
                }
            }
        }
    }

    /** Undoes handles in a row of its own, which is filled between begin and untangle. */
    private static final class Untangler {
        private Row work;
        private Row spare;
        private final Handle first;
        private int undone;
        private int most;
        private boolean isEnough;

        Untangler() {
            work = new Row(MOST_UNTANGLED);
            spare = new Row(MOST_UNTANGLED);
            first = new Handle();
            undone = 0;
            most = 0;
            isEnough = false;
        }

        void begin() {
            work.empty();
            undone = 0;
            most = 0;
            isEnough = false;
        }

        void untangle() {
            most = work.length;
            for (int step = 0; step <= MOST_HANDLES; step++) {
                if (!first.findIn(work)) {
                    isEnough = true;
                    return;
                }
                if (step == MOST_HANDLES || first.lengthWithout(work) > MOST_UNTANGLED) {
                    return;
                }
                undoOne();
            }
        }

        private void undoOne() {
            first.takeOut(work, spare);
            Row old = work;
            work = spare;
            spare = old;
            undone++;
            most = Math.max(most, work.length);
        }

        int answer(int what) {
            if (!isEnough) {
                return NONE;
            }
            switch (what) {
                case 0:
                    return work.length;
                case 1:
                    return undone;
                case 2:
                    return leaning();
                default:
                    return most;
            }
        }

        private int leaning() {
            int sign = work.signOfLowestRank();
            return sign < 0 ? 2 : sign;
        }

        int leftAt(int place) {
            return isEnough ? crossingOrNone(work, place) : NONE;
        }
    }
}
