import java.util.Arrays;

/** A kitchen in which all is chalked on a slate ahead of cooking. */
public final class ChalkSlate {
    private static final int MOST_LINES = 120;
    private static final int MOST_DISHES = 20;
    private static final int POTS = 8;
    private static final int MOST_SPOONS = 999;
    private static final int NONE = -1;

    private static final int KIND_BEGUN = 0;
    private static final int KIND_CHANGE = 1;
    private static final int KIND_FINISHED = 2;
    private static final int KIND_UNDOING = 3;
    private static final int KIND_DROPPED = 4;

    private static final int OPEN = 0;
    private static final int FINISHED = 1;
    private static final int DROPPED = 2;
    private static final int FORGOTTEN = 3;

    private static final int POT_ANSWERS = 5;
    private static final int DISH_ANSWERS = 5;
    private static final int LINE_ANSWERS = 7;
    private static final int COUNT_ANSWERS = 11;
    private static final int WOULD_ANSWERS = 5;

    // A begun dish costs its line and the line that ends it; a change costs
    // its line and the one that takes it back.
    private static final int ROOM_FOR_A_LINE = 2;
    private static final long DIGEST_START = 1291L;
    private static final long DIGEST_FACTOR = 31L;

    private final int[] stove = new int[POTS];
    private final int[] shelf = new int[POTS];
    private final int[] stamp = new int[POTS];

    private final int[] dishState = new int[MOST_DISHES];
    private int dishes;

    private final int[] lineDish = new int[MOST_LINES];
    private final int[] lineKind = new int[MOST_LINES];
    private final int[] linePot = new int[MOST_LINES];
    private final int[] lineAhead = new int[MOST_LINES];
    private final int[] lineBehind = new int[MOST_LINES];
    private final int[] lineTakesBack = new int[MOST_LINES];
    private final int[] lineTakenBackBy = new int[MOST_LINES];
    private int lines;
    private int dryLines;
    private int falls;

    public ChalkSlate() {
        Arrays.fill(stamp, NONE);
    }

    // ---- dishes

    public int begin() throws IllegalStateException {
        if (dishes >= MOST_DISHES) {
            throw new IllegalStateException("there were 20 dishes");
        }
        if (roomLeft() < ROOM_FOR_A_LINE) {
            throw new IllegalStateException("no room for the line");
        }
        int dish = dishes;
        dishes++;
        put(dishState, dish, OPEN);
        chalk(dish, KIND_BEGUN);
        return dish;
    }

    public int cook(int dish, int pot, int spoons)
            throws IndexOutOfBoundsException, IllegalArgumentException, IllegalStateException {
        if (!isDish(dish) || !isPot(pot)) {
            throw new IndexOutOfBoundsException("no such dish or pot");
        }
        if (spoons < 0 || spoons > MOST_SPOONS) {
            throw new IllegalArgumentException("spoons are 0 to 999");
        }
        if (!isOpen(dish)) {
            throw new IllegalStateException("the dish is not open");
        }
        int holder = holderOf(pot);
        if (holder != NONE && holder != dish) {
            throw new IllegalStateException("another dish holds the pot");
        }
        if (roomLeft() < ROOM_FOR_A_LINE) {
            throw new IllegalStateException("no room for the line");
        }
        int before = at(stove, pot);
        chalkSpoons(dish, KIND_CHANGE, pot, spoons);
        return before;
    }

    public int finish(int dish) throws IndexOutOfBoundsException, IllegalStateException {
        if (!isDish(dish)) {
            throw new IndexOutOfBoundsException("no such dish");
        }
        if (!isOpen(dish)) {
            throw new IllegalStateException("the dish is not open");
        }
        chalk(dish, KIND_FINISHED);
        put(dishState, dish, FINISHED);
        return dryUpTo(lines);
    }

    public int drop(int dish) throws IndexOutOfBoundsException, IllegalStateException {
        if (!isDish(dish)) {
            throw new IndexOutOfBoundsException("no such dish");
        }
        if (!isOpen(dish)) {
            throw new IllegalStateException("the dish is not open");
        }
        return undo(dish);
    }

    // ---- shelf, chalk, and the fall

    public int shelve(int pot) throws IndexOutOfBoundsException {
        if (!isPot(pot)) {
            throw new IndexOutOfBoundsException("no such pot");
        }
        int latest = latestLineOf(pot);
        int gotDry = dryUpTo(latest + 1);
        put(shelf, pot, at(stove, pot));
        put(stamp, pot, latest);
        return gotDry;
    }

    public int blow() {
        return dryUpTo(lines);
    }

    public int fall() {
        wipeWhatIsNotDry();
        System.arraycopy(shelf, 0, stove, 0, POTS);
        int doneAnew = doAnew();
        for (int dish = dishes - 1; dish >= 0; dish--) {
            if (isOpen(dish)) {
                undo(dish);
            }
        }
        falls++;
        return doneAnew;
    }

    // ---- what is there

    public int pot(int pot, int what) throws IndexOutOfBoundsException {
        if (!isPot(pot) || !isBelow(what, POT_ANSWERS)) {
            throw new IndexOutOfBoundsException("no such pot or answer");
        }
        return potAnswer(pot, what);
    }

    public int dish(int dish, int what) throws IndexOutOfBoundsException {
        if (!isDish(dish) || !isBelow(what, DISH_ANSWERS)) {
            throw new IndexOutOfBoundsException("no such dish or answer");
        }
        return dishAnswer(dish, what);
    }

    public int line(int line, int what) throws IndexOutOfBoundsException {
        if (!isBelow(line, lines) || !isBelow(what, LINE_ANSWERS)) {
            throw new IndexOutOfBoundsException("no such line or answer");
        }
        return lineAnswer(line, what);
    }

    public int count(int what) throws IndexOutOfBoundsException {
        if (!isBelow(what, COUNT_ANSWERS)) {
            throw new IndexOutOfBoundsException("no such answer");
        }
        return countAnswer(what);
    }

    // ---- what would be

    public int would(int what) throws IndexOutOfBoundsException {
        if (!isBelow(what, WOULD_ANSWERS)) {
            throw new IndexOutOfBoundsException("no such answer");
        }
        switch (what) {
            case 0:
                return lines - dryLines;
            case 1:
                return linesToDoAnew();
            case 2:
                return linesToTakeBack();
            case 3:
                return firstLineToDoAnew();
            default:
                return dishesToForget();
        }
    }

    public int left(int pot) throws IndexOutOfBoundsException {
        if (!isPot(pot)) {
            throw new IndexOutOfBoundsException("no such pot");
        }
        int spoons = at(shelf, pot);
        for (int i = 0; i < dryLines; i++) {
            if (at(linePot, i) == pot && isToDoAnew(i)) {
                spoons = at(lineBehind, i);
            }
        }
        for (int dish = dishes - 1; dish >= 0; dish--) {
            if (stateByLines(dish, dryLines) == OPEN) {
                spoons = spoonsAfterUndoing(dish, pot, spoons);
            }
        }
        return spoons;
    }

    public double mean() {
        return (double) sumOf(stove) / POTS;
    }

    public long digest() {
        long d = DIGEST_START;
        for (int what = 0; what < COUNT_ANSWERS; what++) {
            d = d * DIGEST_FACTOR + countAnswer(what);
        }
        for (int pot = 0; pot < POTS; pot++) {
            for (int what = 0; what < POT_ANSWERS; what++) {
                d = d * DIGEST_FACTOR + potAnswer(pot, what);
            }
        }
        for (int dish = 0; dish < dishes; dish++) {
            for (int what = 0; what < DISH_ANSWERS; what++) {
                d = d * DIGEST_FACTOR + dishAnswer(dish, what);
            }
        }
        for (int line = 0; line < lines; line++) {
            for (int what = 0; what < LINE_ANSWERS; what++) {
                d = d * DIGEST_FACTOR + lineAnswer(line, what);
            }
        }
        return d;
    }

    // ---- rows: every index is tested here, so no row is read or written beside it

    private static int at(int[] row, int index) {
        return isBelow(index, row.length) ? row[index] : NONE;
    }

    private static void put(int[] row, int index, int value) {
        if (isBelow(index, row.length)) {
            row[index] = value;
        }
    }

    private static boolean isBelow(int number, int end) {
        return number >= 0 && number < end;
    }

    private static int sumOf(int[] row) {
        int sum = 0;
        for (int i = 0; i < row.length; i++) {
            sum += row[i];
        }
        return sum;
    }

    // ---- answers

    private int potAnswer(int pot, int what) {
        switch (what) {
            case 0:
                return at(stove, pot);
            case 1:
                return at(shelf, pot);
            case 2:
                return at(stamp, pot);
            case 3:
                return holderOf(pot);
            default:
                return latestLineOf(pot);
        }
    }

    private int dishAnswer(int dish, int what) {
        switch (what) {
            case 0:
                return at(dishState, dish);
            case 1:
                return linesOf(dish);
            case 2:
                return changesNotTakenBack(dish, lines);
            case 3:
                return potsHeldBy(dish);
            default:
                return lastLineOf(dish);
        }
    }

    private int lineAnswer(int line, int what) {
        switch (what) {
            case 0:
                return at(lineDish, line);
            case 1:
                return at(lineKind, line);
            case 2:
                return at(linePot, line);
            case 3:
                return at(lineAhead, line);
            case 4:
                return at(lineBehind, line);
            case 5:
                return at(lineTakesBack, line);
            default:
                return line < dryLines ? 1 : 0;
        }
    }

    private int countAnswer(int what) {
        switch (what) {
            case 0:
                return lines;
            case 1:
                return dryLines;
            case 2:
                return dishes;
            case 3:
                return dishesThatAre(OPEN);
            case 4:
                return dishesThatAre(FINISHED);
            case 5:
                return dishesThatAre(DROPPED);
            case 6:
                return dishesThatAre(FORGOTTEN);
            case 7:
                return roomLeft();
            case 8:
                return sumOf(stove);
            case 9:
                return sumOf(shelf);
            default:
                return falls;
        }
    }

    // ---- pots

    private static boolean isPot(int pot) {
        return isBelow(pot, POTS);
    }

    private int holderOf(int pot) {
        for (int i = 0; i < lines; i++) {
            int dish = at(lineDish, i);
            if (at(lineKind, i) == KIND_CHANGE && at(linePot, i) == pot && isOpen(dish)) {
                return dish;
            }
        }
        return NONE;
    }

    private int latestLineOf(int pot) {
        for (int i = lines - 1; i >= 0; i--) {
            // Only lines of kind 1 and 3 have a pot.
            if (at(linePot, i) == pot) {
                return i;
            }
        }
        return NONE;
    }

    // ---- dishes, as they are

    private boolean isDish(int dish) {
        return isBelow(dish, dishes);
    }

    private boolean isOpen(int dish) {
        return at(dishState, dish) == OPEN;
    }

    private int dishesThatAre(int state) {
        int found = 0;
        for (int dish = 0; dish < dishes; dish++) {
            if (at(dishState, dish) == state) {
                found++;
            }
        }
        return found;
    }

    private int linesOf(int dish) {
        int found = 0;
        for (int i = 0; i < lines; i++) {
            if (at(lineDish, i) == dish) {
                found++;
            }
        }
        return found;
    }

    private int lastLineOf(int dish) {
        for (int i = lines - 1; i >= 0; i--) {
            if (at(lineDish, i) == dish) {
                return i;
            }
        }
        return NONE;
    }

    private int potsHeldBy(int dish) {
        int held = 0;
        for (int pot = 0; pot < POTS; pot++) {
            if (holderOf(pot) == dish) {
                held++;
            }
        }
        return held;
    }

    // ---- dishes, as the lines ahead of an end tell

    private int stateByLines(int dish, int end) {
        int state = FORGOTTEN;
        for (int i = 0; i < end; i++) {
            if (at(lineDish, i) == dish) {
                state = stateAfter(at(lineKind, i), state);
            }
        }
        return state;
    }

    private static int stateAfter(int kind, int state) {
        switch (kind) {
            case KIND_BEGUN:
                return OPEN;
            case KIND_FINISHED:
                return FINISHED;
            case KIND_DROPPED:
                return DROPPED;
            default:
                return state;
        }
    }

    private boolean isChangeNotTakenBack(int line, int dish, int end) {
        return at(lineDish, line) == dish
                && at(lineKind, line) == KIND_CHANGE
                && !isBelow(at(lineTakenBackBy, line), end);
    }

    private int changesNotTakenBack(int dish, int end) {
        int found = 0;
        for (int i = 0; i < end; i++) {
            if (isChangeNotTakenBack(i, dish, end)) {
                found++;
            }
        }
        return found;
    }

    // ---- chalking

    private int roomLeft() {
        int room = MOST_LINES - lines;
        for (int dish = 0; dish < dishes; dish++) {
            if (isOpen(dish)) {
                room -= 1 + changesNotTakenBack(dish, lines);
            }
        }
        return room;
    }

    private void chalk(int dish, int kind) {
        put(lineDish, lines, dish);
        put(lineKind, lines, kind);
        put(linePot, lines, NONE);
        put(lineAhead, lines, NONE);
        put(lineBehind, lines, NONE);
        put(lineTakesBack, lines, NONE);
        put(lineTakenBackBy, lines, NONE);
        lines++;
    }

    private void chalkSpoons(int dish, int kind, int pot, int spoons) {
        int line = lines;
        chalk(dish, kind);
        put(linePot, line, pot);
        put(lineAhead, line, at(stove, pot));
        put(lineBehind, line, spoons);
        put(stove, pot, spoons);
    }

    private void takeBack(int change) {
        int line = lines;
        chalkSpoons(at(lineDish, change), KIND_UNDOING, at(linePot, change), at(lineAhead, change));
        put(lineTakesBack, line, change);
        put(lineTakenBackBy, change, line);
    }

    private int undo(int dish) {
        int takenBack = 0;
        for (int i = lines - 1; i >= 0; i--) {
            if (isChangeNotTakenBack(i, dish, lines)) {
                takeBack(i);
                takenBack++;
            }
        }
        chalk(dish, KIND_DROPPED);
        put(dishState, dish, DROPPED);
        return takenBack;
    }

    private int dryUpTo(int end) {
        int before = dryLines;
        dryLines = Math.max(before, end);
        return dryLines - before;
    }

    // ---- the fall, as it goes

    private void wipeWhatIsNotDry() {
        lines = dryLines;
        for (int i = 0; i < lines; i++) {
            // A wiped undoing must not count again once its number is given anew.
            if (at(lineTakenBackBy, i) >= lines) {
                put(lineTakenBackBy, i, NONE);
            }
        }
        for (int dish = 0; dish < dishes; dish++) {
            put(dishState, dish, stateByLines(dish, lines));
        }
    }

    private int doAnew() {
        int done = 0;
        for (int i = 0; i < lines; i++) {
            if (isToDoAnew(i)) {
                put(stove, at(linePot, i), at(lineBehind, i));
                done++;
            }
        }
        return done;
    }

    private boolean isToDoAnew(int line) {
        int pot = at(linePot, line);
        return pot != NONE && line > at(stamp, pot);
    }

    // ---- the fall, as it would go

    private int linesToDoAnew() {
        int found = 0;
        for (int i = 0; i < dryLines; i++) {
            if (isToDoAnew(i)) {
                found++;
            }
        }
        return found;
    }

    private int firstLineToDoAnew() {
        for (int i = 0; i < dryLines; i++) {
            if (isToDoAnew(i)) {
                return i;
            }
        }
        return NONE;
    }

    private int linesToTakeBack() {
        int found = 0;
        for (int dish = 0; dish < dishes; dish++) {
            if (stateByLines(dish, dryLines) == OPEN) {
                found += changesNotTakenBack(dish, dryLines);
            }
        }
        return found;
    }

    private int dishesToForget() {
        int found = 0;
        for (int dish = 0; dish < dishes; dish++) {
            boolean isForgotten = at(dishState, dish) == FORGOTTEN;
            if (!isForgotten && stateByLines(dish, dryLines) == FORGOTTEN) {
                found++;
            }
        }
        return found;
    }

    private int spoonsAfterUndoing(int dish, int pot, int spoons) {
        int after = spoons;
        for (int i = dryLines - 1; i >= 0; i--) {
            if (at(linePot, i) == pot && isChangeNotTakenBack(i, dish, dryLines)) {
                after = at(lineAhead, i);
            }
        }
        return after;
    }
}
