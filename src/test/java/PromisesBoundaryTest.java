import java.math.BigInteger;
import java.util.ArrayList;
import java.util.List;
import java.util.function.Supplier;

/** For each sentence of the promises that names a boundary case, a test that names it. */
public final class PromisesBoundaryTest extends Checks {
    private static final int MOST_LINES_ASKED = 50;

    public static void main(String[] args) {
        newObject();
        newObjectRefuses();
        beginReturns();
        beginRefuses();
        cookReturns();
        cookRefusesNoDish();
        cookRefusesSpoons();
        cookRefusesState();
        finishDries();
        finishReturns();
        finishRefuses();
        dropReturns();
        dropRefuses();
        shelveDries();
        shelveDriesNothing();
        shelveTellsTheLatestLine();
        shelveWithoutALine();
        shelveRefuses();
        blowReturns();
        fallReturns();
        fallReturnsNoUndoings();
        potAnswers();
        potHolder();
        potRefuses();
        dishAnswers();
        dishOfFullSlate();
        dishRefuses();
        lineAnswers();
        lineRefuses();
        countAtItsSmallest();
        countAtItsGreatest();
        countOfDishes();
        countRefuses();
        wouldWipe();
        wouldDoAnew();
        wouldTakeBack();
        wouldFirst();
        wouldForget();
        wouldChangesNothing();
        wouldRefuses();
        leftAtTheEdges();
        leftOfPartlyDryChanges();
        leftChangesNothing();
        leftRefuses();
        mean();
        digestWrapsAround();
        digestInOrder();
        digestOfEverything();
        endWith("all that the promises say at their edges holds");
    }

    // ---- promise 1

    private static void newObject() {
        says("Promise 1", "Creates a kitchen with empty pots and an empty slate.");
        ChalkSlate x = new ChalkSlate();
        counts(x, 0, 0, 0, 0, 0, 0, 0, 120, 0, 0, 0);
        for (int pot = 0; pot < 8; pot++) {
            potIs(x, pot, 0, 0, -1, -1, -1);
        }
        woulds(x, 0, 0, 0, -1, 0);
        lefts(x, 0, 0, 0, 0, 0, 0, 0, 0);
        dueDouble("mean()", x.mean(), 0.0);
        ChalkSlate used = Kitchens.fullByDrop();
        ChalkSlate behind = new ChalkSlate();
        counts(behind, 0, 0, 0, 0, 0, 0, 0, 120, 0, 0, 0);
        due("a new object leaves another as it was: count(0)", used.count(0), 120);
    }

    private static void newObjectRefuses() {
        says("Promise 1", "Creates a kitchen with empty pots and an empty slate.");
        ChalkSlate x = new ChalkSlate();
        refused(x, INDEX, "cook(0, 0, 0) without dishes", () -> x.cook(0, 0, 0));
        refused(x, INDEX, "finish(0) without dishes", () -> x.finish(0));
        refused(x, INDEX, "drop(0) without dishes", () -> x.drop(0));
        refused(x, INDEX, "dish(0, 0) without dishes", () -> x.dish(0, 0));
        refused(x, INDEX, "line(0, 0) without lines", () -> x.line(0, 0));
        due("blow()", x.blow(), 0);
        due("shelve(0)", x.shelve(0), 0);
        due("fall()", x.fall(), 0);
        due("begin()", x.begin(), 0);
    }

    // ---- promise 2

    private static void beginReturns() {
        says("Promise 2", "Begins a dish: there is a line of kind 0. Returns its number.");
        ChalkSlate x = new ChalkSlate();
        for (int dish = 0; dish < 20; dish++) {
            due("begin()", x.begin(), dish);
            due("count(0)", x.count(0), dish + 1);
            lineIs(x, dish, dish, 0, -1, -1, -1, -1, 0);
            dishIs(x, dish, 0, 1, 0, 0, dish);
        }
        due("count(1) is as it was", x.count(1), 0);
    }

    private static void beginRefuses() {
        says("Promise 2", "Throws IllegalStateException if there were 20, or there is no room for the line");
        ChalkSlate full = Kitchens.fullOfDishes();
        counts(full, 120, 120, 20, 0, 19, 1, 0, 0, 0, 0, 0);
        refused(full, STATE, "begin() after 20, without room", () -> full.begin());
        ChalkSlate twenty = new ChalkSlate();
        for (int dish = 0; dish < 20; dish++) {
            twenty.begin();
        }
        refused(twenty, STATE, "begin() after 20, all open", () -> twenty.begin());
        for (int dish = 0; dish < 20; dish++) {
            twenty.finish(dish);
        }
        refused(twenty, STATE, "begin() after 20, all finished", () -> twenty.begin());
        for (int room = 0; room < 4; room++) {
            ChalkSlate x = Kitchens.withRoom(room);
            due("count(7)", x.count(7), room);
            if (room < 2) {
                refused(x, STATE, "begin() with room " + room, () -> x.begin());
            } else {
                due("begin() with room " + room, x.begin(), 1 + room % 2);
            }
        }
    }

    // ---- promise 3

    private static void cookReturns() {
        says("Promise 3", "Changes what is in a pot: there is a line of kind 1, and so many spoons are on the stove."
                + " Returns the spoons before.");
        ChalkSlate x = new ChalkSlate();
        x.begin();
        int[] spoons = {0, 1, 999, 999, 998, 0};
        int before = 0;
        for (int i = 0; i < spoons.length; i++) {
            due("cook(0, 7, " + spoons[i] + ")", x.cook(0, 7, spoons[i]), before);
            lineIs(x, i + 1, 0, 1, 7, before, spoons[i], -1, 0);
            potIs(x, 7, spoons[i], 0, -1, 0, i + 1);
            before = spoons[i];
        }
        due("count(0)", x.count(0), 7);
        due("pot(6, 0) is as it was", x.pot(6, 0), 0);
    }

    private static void cookRefusesNoDish() {
        says("Promise 3", "Throws IndexOutOfBoundsException if there is no such dish, or pot is not 0 to 7");
        ChalkSlate x = new ChalkSlate();
        x.begin();
        x.begin();
        x.begin();
        for (int bad : beyond(3)) {
            refused(x, INDEX, "cook(" + bad + ", 0, 5)", () -> x.cook(bad, 0, 5));
            refused(x, INDEX, "cook(" + bad + ", 8, -1)", () -> x.cook(bad, 8, -1));
        }
        for (int bad : beyond(8)) {
            refused(x, INDEX, "cook(2, " + bad + ", 5)", () -> x.cook(2, bad, 5));
            refused(x, INDEX, "cook(2, " + bad + ", 1000)", () -> x.cook(2, bad, 1000));
        }
        due("cook(0, 0, 5)", x.cook(0, 0, 5), 0);
        due("cook(2, 7, 5)", x.cook(2, 7, 5), 0);
    }

    private static void cookRefusesSpoons() {
        says("Promise 3", "Throws IllegalArgumentException if spoons is not 0 to 999");
        ChalkSlate x = Kitchens.dishesOfAllKinds();
        for (int bad : new int[] {-1, 1000, 1001, -1000, 65536, 1 << 30, Integer.MIN_VALUE, Integer.MAX_VALUE}) {
            for (int dish = 0; dish < Kitchens.NO_DISH; dish++) {
                int ended = dish;
                refused(x, ARGUMENT, "cook(" + dish + ", 6, " + bad + ")", () -> x.cook(ended, 6, bad));
            }
        }
        due("cook of 999", x.cook(Kitchens.OPEN_DISH, 0, 999), 0);
        due("cook of 0", x.cook(Kitchens.OPEN_DISH, 0, 0), 999);
    }

    private static void cookRefusesState() {
        says("Promise 3", "Throws IllegalStateException if the dish is not open, another one holds the pot, or there is"
                + " no room for the line");
        ChalkSlate x = Kitchens.dishesOfAllKinds();
        for (int ended = 0; ended < Kitchens.OPEN_DISH; ended++) {
            int dish = ended;
            refused(x, STATE, "cook(" + dish + ", 0, 5) of an ended dish", () -> x.cook(dish, 0, 5));
        }
        refused(x, STATE, "cook(3, 6, 5) of a held pot", () -> x.cook(Kitchens.OPEN_DISH, Kitchens.HELD_POT, 5));
        due("cook(4, 6, 5) of its own pot", x.cook(Kitchens.HOLDING_DISH, Kitchens.HELD_POT, 5), 60);
        for (int room = 0; room < 4; room++) {
            ChalkSlate y = Kitchens.withRoom(room);
            int dish = room % 2;
            if (room < 2) {
                refused(y, STATE, "cook with room " + room, () -> y.cook(dish, 1, 5));
            } else {
                due("cook with room " + room, y.cook(dish, 1, 5), 0);
                due("count(7)", y.count(7), room - 2);
            }
        }
    }

    // ---- promise 4

    private static void finishDries() {
        says("Promise 4", "Finishes a dish: there is a line of kind 2, and all lines are dry then.");
        ChalkSlate x = new ChalkSlate();
        x.begin();
        x.begin();
        x.cook(1, 3, 999);
        x.finish(0);
        lineIs(x, 3, 0, 2, -1, -1, -1, -1, 1);
        for (int line = 0; line < 4; line++) {
            due("line(" + line + ", 6)", x.line(line, 6), 1);
        }
        counts(x, 4, 4, 2, 1, 1, 0, 0, 114, 999, 0, 0);
        dishIs(x, 0, 1, 2, 0, 0, 3);
        dishIs(x, 1, 0, 2, 1, 1, 2);
        potIs(x, 3, 999, 0, -1, 1, 2);
    }

    private static void finishReturns() {
        says("Promise 4", "Returns how many lines get dry by that.");
        ChalkSlate x = new ChalkSlate();
        x.begin();
        due("finish(0) as the second line", x.finish(0), 2);
        x.begin();
        x.blow();
        due("finish(1) with all else dry", x.finish(1), 1);
        x.begin();
        x.cook(2, 0, 1);
        x.shelve(0);
        x.cook(2, 1, 1);
        due("finish(2) with some dry", x.finish(2), 2);
        ChalkSlate full = Kitchens.withTwoLinesLeft();
        full.begin();
        due("finish(1) as the last line, none dry", full.finish(1), 120);
        ChalkSlate dry = Kitchens.withTwoLinesLeft();
        dry.begin();
        dry.blow();
        due("finish(1) as the last line, all else dry", dry.finish(1), 1);
        due("count(1)", dry.count(1), 120);
        ChalkSlate noRoom = Kitchens.withRoom(0);
        due("finish(0) without room", noRoom.finish(0), 61);
        dishIs(noRoom, 0, 1, 61, 59, 0, 60);
    }

    private static void finishRefuses() {
        says("Promise 4", "Throws IndexOutOfBoundsException if there is no such dish. Throws IllegalStateException if it"
                + " is not open");
        ChalkSlate x = Kitchens.dishesOfAllKinds();
        for (int bad : beyond(Kitchens.NO_DISH)) {
            refused(x, INDEX, "finish(" + bad + ")", () -> x.finish(bad));
        }
        refused(x, STATE, "finish of a finished dish", () -> x.finish(Kitchens.FINISHED_DISH));
        refused(x, STATE, "finish of a dropped dish", () -> x.finish(Kitchens.DROPPED_DISH));
        refused(x, STATE, "finish of a forgotten dish", () -> x.finish(Kitchens.FORGOTTEN_DISH));
        due("finish of the last dish", x.finish(Kitchens.HOLDING_DISH), 4);
        refused(x, STATE, "finish of the last dish again", () -> x.finish(Kitchens.HOLDING_DISH));
        ChalkSlate full = Kitchens.fullByDrop();
        refused(full, STATE, "finish(0) when the slate is full", () -> full.finish(0));
        refused(full, INDEX, "finish(1) when the slate is full", () -> full.finish(1));
    }

    // ---- promise 5

    private static void dropReturns() {
        says("Promise 5", "Drops a dish: it is undone. Returns how many lines are taken back.");
        ChalkSlate x = new ChalkSlate();
        x.begin();
        x.begin();
        x.blow();
        due("drop(0) without changes", x.drop(0), 0);
        due("count(1) is as it was", x.count(1), 2);
        x.cook(1, 0, 5);
        due("drop(1) with one change", x.drop(1), 1);
        lineIs(x, 4, 1, 3, 0, 5, 0, 3, 0);
        lineIs(x, 5, 1, 4, -1, -1, -1, -1, 0);
        counts(x, 6, 2, 2, 0, 0, 2, 0, 114, 0, 0, 0);
        ChalkSlate noRoom = Kitchens.withRoom(0);
        noRoom.blow();
        due("drop(0) without room", noRoom.drop(0), 59);
        counts(noRoom, 120, 60, 1, 0, 0, 1, 0, 0, 0, 0, 0);
        dishIs(noRoom, 0, 2, 120, 0, 0, 119);
        ChalkSlate last = Kitchens.withTwoLinesLeft();
        last.begin();
        due("drop(1) as the last line", last.drop(1), 0);
        lineIs(last, 119, 1, 4, -1, -1, -1, -1, 0);
    }

    private static void dropRefuses() {
        says("Promise 5", "Throws IndexOutOfBoundsException if there is no such dish. Throws IllegalStateException if it"
                + " is not open");
        ChalkSlate x = Kitchens.dishesOfAllKinds();
        for (int bad : beyond(Kitchens.NO_DISH)) {
            refused(x, INDEX, "drop(" + bad + ")", () -> x.drop(bad));
        }
        refused(x, STATE, "drop of a finished dish", () -> x.drop(Kitchens.FINISHED_DISH));
        refused(x, STATE, "drop of a dropped dish", () -> x.drop(Kitchens.DROPPED_DISH));
        refused(x, STATE, "drop of a forgotten dish", () -> x.drop(Kitchens.FORGOTTEN_DISH));
        due("drop of the last dish", x.drop(Kitchens.HOLDING_DISH), 1);
        refused(x, STATE, "drop of the last dish again", () -> x.drop(Kitchens.HOLDING_DISH));
        ChalkSlate full = Kitchens.fullByFinish();
        refused(full, STATE, "drop(0) when the slate is full", () -> full.drop(0));
        refused(full, STATE, "drop(1) when the slate is full", () -> full.drop(1));
        refused(full, INDEX, "drop(2) when the slate is full", () -> full.drop(2));
    }

    // ---- promise 6

    private static void shelveDries() {
        says("Promise 6", "first all lines up to its latest line are dry, if they are not. Returns how many lines get"
                + " dry by that.");
        ChalkSlate x = new ChalkSlate();
        x.begin();
        x.cook(0, 0, 5);
        x.cook(0, 7, 999);
        x.begin();
        due("shelve(7), whose latest line is not the last one", x.shelve(7), 3);
        due("count(1)", x.count(1), 3);
        due("line(2, 6), the latest one", x.line(2, 6), 1);
        due("line(3, 6) behind it", x.line(3, 6), 0);
        potIs(x, 7, 999, 999, 2, 0, 2);
        x.blow();
        x.cook(1, 6, 1);
        due("shelve(6), whose latest line alone is not dry", x.shelve(6), 1);
        due("count(1)", x.count(1), 5);
        ChalkSlate full = Kitchens.fullByDrop();
        due("shelve(0) of a full slate", full.shelve(0), 119);
        due("line(118, 6)", full.line(118, 6), 1);
        due("line(119, 6)", full.line(119, 6), 0);
    }

    private static void shelveDriesNothing() {
        says("Promise 6", "first all lines up to its latest line are dry, if they are not. Returns how many lines get"
                + " dry by that.");
        ChalkSlate x = new ChalkSlate();
        x.begin();
        x.cook(0, 0, 5);
        x.cook(0, 1, 6);
        x.shelve(1);
        x.cook(0, 2, 7);
        due("shelve(1) again", x.shelve(1), 0);
        due("count(1) is as it was", x.count(1), 3);
        due("shelve(0), whose latest line is far ahead of the last dry one", x.shelve(0), 0);
        due("count(1) is as it was", x.count(1), 3);
        potIs(x, 0, 5, 5, 1, 0, 1);
        due("line(3, 6)", x.line(3, 6), 0);
    }

    private static void shelveTellsTheLatestLine() {
        says("Promise 6", "then its spoons on the shelf are those on the stove, and its stamp is its latest line.");
        ChalkSlate x = new ChalkSlate();
        x.begin();
        x.cook(0, 3, 999);
        x.cook(0, 3, 0);
        x.shelve(3);
        potIs(x, 3, 0, 0, 2, 0, 2);
        x.cook(0, 3, 999);
        potIs(x, 3, 999, 0, 2, 0, 3);
        x.shelve(3);
        potIs(x, 3, 999, 999, 3, 0, 3);
        x.drop(0);
        potIs(x, 3, 0, 999, 3, -1, 6);
        due("shelve(3) ahead of the line of kind 4", x.shelve(3), 3);
        potIs(x, 3, 0, 0, 6, -1, 6);
        due("count(1)", x.count(1), 7);
        potIs(x, 2, 0, 0, -1, -1, -1);
        potIs(x, 4, 0, 0, -1, -1, -1);
    }

    private static void shelveWithoutALine() {
        says("Promise 6", "first all lines up to its latest line are dry, if they are not; then its spoons on the shelf"
                + " are those on the stove, and its stamp is its latest line.");
        ChalkSlate x = new ChalkSlate();
        due("shelve(0) upon an empty slate", x.shelve(0), 0);
        potIs(x, 0, 0, 0, -1, -1, -1);
        x.begin();
        due("shelve(0) without a line of it", x.shelve(0), 0);
        due("count(1)", x.count(1), 0);
        x.cook(0, 0, 5);
        x.fall();
        due("shelve(0), whose only line was wiped away", x.shelve(0), 0);
        potIs(x, 0, 0, 0, -1, -1, -1);
        x.begin();
        x.cook(1, 1, 5);
        x.blow();
        due("shelve(0) without a line of it, all dry", x.shelve(0), 0);
        due("count(1)", x.count(1), 2);
    }

    private static void shelveRefuses() {
        says("Promise 6", "Throws IndexOutOfBoundsException if pot is not 0 to 7");
        ChalkSlate x = Kitchens.dishesOfAllKinds();
        for (int bad : beyond(8)) {
            refused(x, INDEX, "shelve(" + bad + ")", () -> x.shelve(bad));
        }
        due("shelve(0)", x.shelve(0), 0);
        due("shelve(7)", x.shelve(7), 0);
        due("shelve(6)", x.shelve(6), 3);
    }

    // ---- promise 7

    private static void blowReturns() {
        says("Promise 7", "all lines are dry then. Returns how many lines get dry by that.");
        ChalkSlate x = new ChalkSlate();
        due("blow() upon an empty slate", x.blow(), 0);
        x.begin();
        due("blow() upon one line", x.blow(), 1);
        due("blow() with all dry", x.blow(), 0);
        x.cook(0, 0, 1);
        x.cook(0, 1, 1);
        x.shelve(0);
        due("blow() with some dry", x.blow(), 1);
        due("count(1)", x.count(1), 3);
        due("line(2, 6)", x.line(2, 6), 1);
        potIs(x, 1, 1, 0, -1, 0, 2);
        due("blow() upon a full slate", Kitchens.fullByDrop().blow(), 120);
        due("blow() upon a full slate, all dry", Kitchens.fullByFinish().blow(), 0);
        due("blow() upon a full slate, all dry but the last", Kitchens.fullByFall().blow(), 1);
    }

    // ---- promise 8

    private static void fallReturns() {
        says("Promise 8", "Returns how many lines are done anew.");
        due("fall() upon an empty slate", new ChalkSlate().fall(), 0);
        ChalkSlate x = new ChalkSlate();
        x.begin();
        x.cook(0, 0, 5);
        due("fall() with no line dry", x.fall(), 0);
        x.begin();
        x.cook(1, 0, 5);
        x.blow();
        x.cook(1, 0, 6);
        due("fall() with one change dry", x.fall(), 1);
        x.blow();
        due("fall() with a change and its undoing dry", x.fall(), 2);
        x.shelve(0);
        due("fall() with both told upon the shelf", x.fall(), 0);
        ChalkSlate full = Kitchens.fullByDrop();
        full.blow();
        due("fall() with a full slate", full.fall(), 118);
        due("fall() with a full slate again", full.fall(), 118);
        due("count(10)", full.count(10), 2);
    }

    private static void fallReturnsNoUndoings() {
        says("Promise 8", "Returns how many lines are done anew.");
        ChalkSlate x = new ChalkSlate();
        x.begin();
        x.cook(0, 0, 5);
        x.cook(0, 0, 6);
        x.shelve(0);
        due("fall() that takes two lines back and does none anew", x.fall(), 0);
        counts(x, 6, 3, 1, 0, 0, 1, 0, 114, 0, 6, 1);
        potIs(x, 0, 0, 6, 2, -1, 4);
        lineIs(x, 3, 0, 3, 0, 6, 5, 2, 0);
        lineIs(x, 4, 0, 3, 0, 5, 0, 1, 0);
        due("fall() again", x.fall(), 0);
        counts(x, 6, 3, 1, 0, 0, 1, 0, 114, 0, 6, 2);
    }

    // ---- promise 9

    private static void potAnswers() {
        says("Promise 9", "what: 0 its spoons on the stove, 1 on the shelf, 2 its stamp, 3 the dish that holds it, -1"
                + " for none, 4 its latest line");
        ChalkSlate x = new ChalkSlate();
        potIs(x, 0, 0, 0, -1, -1, -1);
        x.begin();
        x.begin();
        x.cook(1, 0, 999);
        x.shelve(0);
        x.cook(1, 0, 1);
        x.cook(0, 7, 2);
        potIs(x, 0, 1, 999, 2, 1, 3);
        potIs(x, 7, 2, 0, -1, 0, 4);
        potIs(x, 1, 0, 0, -1, -1, -1);
        potIs(x, 6, 0, 0, -1, -1, -1);
    }

    private static void potHolder() {
        says("Promise 9", "3 the dish that holds it, -1 for none");
        ChalkSlate x = new ChalkSlate();
        for (int dish = 0; dish < 20; dish++) {
            x.begin();
            due("pot(5, 3) ahead of the change", x.pot(5, 3), -1);
            x.cook(dish, 5, dish);
            due("pot(5, 3)", x.pot(5, 3), dish);
            if (dish < 19) {
                x.finish(dish);
            }
        }
        due("pot(5, 3) of the greatest dish", x.pot(5, 3), 19);
        x.drop(19);
        due("pot(5, 3) of a dropped dish", x.pot(5, 3), -1);
        due("pot(5, 0)", x.pot(5, 0), 18);
    }

    private static void potRefuses() {
        says("Promise 9", "Throws IndexOutOfBoundsException if pot is not 0 to 7, or what is not 0 to 4");
        ChalkSlate x = Kitchens.dishesOfAllKinds();
        for (int bad : beyond(8)) {
            refused(x, INDEX, "pot(" + bad + ", 0)", () -> x.pot(bad, 0));
            refused(x, INDEX, "pot(" + bad + ", 4)", () -> x.pot(bad, 4));
        }
        for (int bad : beyond(5)) {
            refused(x, INDEX, "pot(0, " + bad + ")", () -> x.pot(0, bad));
            refused(x, INDEX, "pot(7, " + bad + ")", () -> x.pot(7, bad));
            refused(x, INDEX, "pot(8, " + bad + ")", () -> x.pot(8, bad));
        }
        potIs(x, Kitchens.HELD_POT, 60, 0, -1, Kitchens.HOLDING_DISH, 6);
    }

    // ---- promise 10

    private static void dishAnswers() {
        says("Promise 10", "what: 0 how it is, 0 to 3, 1 its lines, 2 its lines of kind 1 that are not taken back, 3 pots"
                + " that it holds, 0 if it is not open, 4 its last line, -1 without one");
        ChalkSlate x = Kitchens.dishesOfAllKinds();
        dishIs(x, Kitchens.FINISHED_DISH, 1, 2, 0, 0, 1);
        dishIs(x, Kitchens.DROPPED_DISH, 2, 2, 0, 0, 3);
        dishIs(x, Kitchens.FORGOTTEN_DISH, 3, 0, 0, 0, -1);
        dishIs(x, Kitchens.OPEN_DISH, 0, 1, 0, 0, 4);
        dishIs(x, Kitchens.HOLDING_DISH, 0, 2, 1, 1, 6);
        x.cook(Kitchens.OPEN_DISH, 0, 1);
        x.cook(Kitchens.OPEN_DISH, 1, 1);
        x.cook(Kitchens.OPEN_DISH, 0, 2);
        dishIs(x, Kitchens.OPEN_DISH, 0, 4, 3, 2, 9);
        x.finish(Kitchens.OPEN_DISH);
        dishIs(x, Kitchens.OPEN_DISH, 1, 5, 3, 0, 10);
        x.drop(Kitchens.HOLDING_DISH);
        dishIs(x, Kitchens.HOLDING_DISH, 2, 4, 0, 0, 12);
    }

    private static void dishOfFullSlate() {
        says("Promise 10", "what: 0 how it is, 0 to 3, 1 its lines, 2 its lines of kind 1 that are not taken back, 3 pots"
                + " that it holds, 0 if it is not open, 4 its last line, -1 without one");
        dishIs(Kitchens.withRoom(0), 0, 0, 60, 59, 1, 59);
        dishIs(Kitchens.fullByDrop(), 0, 2, 120, 0, 0, 119);
        ChalkSlate forgotten = Kitchens.fullByDrop();
        forgotten.fall();
        dishIs(forgotten, 0, 3, 0, 0, 0, -1);
        ChalkSlate eight = new ChalkSlate();
        eight.begin();
        for (int pot = 7; pot >= 0; pot--) {
            eight.cook(0, pot, 0);
        }
        dishIs(eight, 0, 0, 9, 8, 8, 8);
        eight.finish(0);
        dishIs(eight, 0, 1, 10, 8, 0, 9);
        ChalkSlate all = Kitchens.fullOfDishes();
        dishIs(all, 0, 2, 82, 0, 0, 81);
        dishIs(all, 1, 1, 2, 0, 0, 83);
        dishIs(all, 19, 1, 2, 0, 0, 119);
    }

    private static void dishRefuses() {
        says("Promise 10", "Throws IndexOutOfBoundsException if there is no such dish, or what is not 0 to 4");
        ChalkSlate x = Kitchens.dishesOfAllKinds();
        for (int bad : beyond(Kitchens.NO_DISH)) {
            refused(x, INDEX, "dish(" + bad + ", 0)", () -> x.dish(bad, 0));
            refused(x, INDEX, "dish(" + bad + ", 4)", () -> x.dish(bad, 4));
        }
        for (int bad : beyond(5)) {
            refused(x, INDEX, "dish(0, " + bad + ")", () -> x.dish(0, bad));
            refused(x, INDEX, "dish(4, " + bad + ")", () -> x.dish(4, bad));
            refused(x, INDEX, "dish(2, " + bad + ") of a forgotten dish", () -> x.dish(2, bad));
        }
        ChalkSlate all = Kitchens.fullOfDishes();
        refused(all, INDEX, "dish(20, 0) behind the last one", () -> all.dish(20, 0));
    }

    // ---- promise 11

    private static void lineAnswers() {
        says("Promise 11", "what: 0 its dish, 1 its kind, 2 its pot, 3 the spoons ahead of it, 4 those behind it, 5 the"
                + " line that it takes back, 6 1 if it is dry, else 0; -1 for what its kind does not have");
        ChalkSlate x = new ChalkSlate();
        x.begin();
        x.cook(0, 0, 0);
        x.cook(0, 7, 999);
        x.shelve(0);
        x.drop(0);
        x.begin();
        lineIs(x, 0, 0, 0, -1, -1, -1, -1, 1);
        lineIs(x, 1, 0, 1, 0, 0, 0, -1, 1);
        lineIs(x, 2, 0, 1, 7, 0, 999, -1, 0);
        lineIs(x, 3, 0, 3, 7, 999, 0, 2, 0);
        lineIs(x, 4, 0, 3, 0, 0, 0, 1, 0);
        lineIs(x, 5, 0, 4, -1, -1, -1, -1, 0);
        lineIs(x, 6, 1, 0, -1, -1, -1, -1, 0);
        x.finish(1);
        lineIs(x, 7, 1, 2, -1, -1, -1, -1, 1);
        due("line(2, 5) of a change that is taken back", x.line(2, 5), -1);
        due("line(6, 6)", x.line(6, 6), 1);
        overAWipedLine();
    }

    /** What a wiped line had is not seen in the line that gets its number. */
    private static void overAWipedLine() {
        ChalkSlate x = new ChalkSlate();
        x.begin();
        x.cook(0, 1, 7);
        x.cook(0, 2, 8);
        x.drop(0);
        x.fall();
        for (int dish = 1; dish < 6; dish++) {
            x.begin();
            lineIs(x, dish - 1, dish, 0, -1, -1, -1, -1, 0);
        }
        x.cook(1, 1, 5);
        lineIs(x, 5, 1, 1, 1, 0, 5, -1, 0);
        dishIs(x, 1, 0, 2, 1, 1, 5);
    }

    private static void lineRefuses() {
        says("Promise 11", "Throws IndexOutOfBoundsException if there is no such line, or what is not 0 to 6");
        ChalkSlate x = Kitchens.dishesOfAllKinds();
        for (int bad : beyond(7)) {
            refused(x, INDEX, "line(" + bad + ", 0)", () -> x.line(bad, 0));
            refused(x, INDEX, "line(" + bad + ", 6)", () -> x.line(bad, 6));
            refused(x, INDEX, "line(0, " + bad + ")", () -> x.line(0, bad));
            refused(x, INDEX, "line(6, " + bad + ")", () -> x.line(6, bad));
        }
        lineIs(x, 6, Kitchens.HOLDING_DISH, 1, Kitchens.HELD_POT, 0, 60, -1, 0);
        x.fall();
        due("count(0)", x.count(0), 4);
        for (int line = 4; line < 7; line++) {
            int wiped = line;
            refused(x, INDEX, "line(" + line + ", 0) that was wiped away", () -> x.line(wiped, 0));
        }
    }

    // ---- promise 12

    private static void countAtItsSmallest() {
        says("Promise 12", "what: 0 lines, 1 those that are dry, 2 dishes in all, 3 open ones, 4 finished ones, 5 dropped"
                + " ones, 6 forgotten ones, 7 the room that is left, 8 spoons on the stove, added, 9 spoons on the"
                + " shelf, added, 10 falls in all");
        ChalkSlate x = new ChalkSlate();
        counts(x, 0, 0, 0, 0, 0, 0, 0, 120, 0, 0, 0);
        x.begin();
        counts(x, 1, 0, 1, 1, 0, 0, 0, 118, 0, 0, 0);
        x.cook(0, 7, 1);
        counts(x, 2, 0, 1, 1, 0, 0, 0, 116, 1, 0, 0);
        x.shelve(7);
        counts(x, 2, 2, 1, 1, 0, 0, 0, 116, 1, 1, 0);
        x.fall();
        counts(x, 4, 2, 1, 0, 0, 1, 0, 116, 0, 1, 1);
        counts(Kitchens.withRoom(1), 61, 3, 2, 1, 1, 0, 0, 1, 57, 0, 0);
        counts(Kitchens.withRoom(0), 60, 0, 1, 1, 0, 0, 0, 0, 59, 0, 0);
    }

    private static void countAtItsGreatest() {
        says("Promise 12", "what: 0 lines, 1 those that are dry, 2 dishes in all, 3 open ones, 4 finished ones, 5 dropped"
                + " ones, 6 forgotten ones, 7 the room that is left, 8 spoons on the stove, added, 9 spoons on the"
                + " shelf, added, 10 falls in all");
        counts(Kitchens.fullOfDishes(), 120, 120, 20, 0, 19, 1, 0, 0, 0, 0, 0);
        ChalkSlate x = new ChalkSlate();
        x.begin();
        for (int pot = 0; pot < 8; pot++) {
            x.cook(0, pot, 999);
            x.shelve(pot);
        }
        counts(x, 9, 9, 1, 1, 0, 0, 0, 102, 7992, 7992, 0);
        for (int falls = 1; falls < 400; falls++) {
            x.fall();
        }
        due("count(10)", x.count(10), 399);
        due("count(8)", x.count(8), 0);
        due("count(9)", x.count(9), 7992);
    }

    private static void countOfDishes() {
        says("Promise 12", "2 dishes in all, 3 open ones, 4 finished ones, 5 dropped ones, 6 forgotten ones");
        ChalkSlate open = new ChalkSlate();
        for (int dish = 0; dish < 20; dish++) {
            open.begin();
        }
        counts(open, 20, 0, 20, 20, 0, 0, 0, 80, 0, 0, 0);
        open.fall();
        counts(open, 0, 0, 20, 0, 0, 0, 20, 120, 0, 0, 1);
        ChalkSlate finished = new ChalkSlate();
        ChalkSlate dropped = new ChalkSlate();
        for (int dish = 0; dish < 20; dish++) {
            finished.begin();
            finished.finish(dish);
            dropped.begin();
            dropped.drop(dish);
        }
        counts(finished, 40, 40, 20, 0, 20, 0, 0, 80, 0, 0, 0);
        counts(dropped, 40, 0, 20, 0, 0, 20, 0, 80, 0, 0, 0);
        counts(Kitchens.dishesOfAllKinds(), 7, 4, 5, 2, 1, 1, 1, 110, 60, 0, 1);
    }

    private static void countRefuses() {
        says("Promise 12", "Throws IndexOutOfBoundsException if what is not 0 to 10");
        ChalkSlate x = Kitchens.dishesOfAllKinds();
        for (int bad : beyond(11)) {
            refused(x, INDEX, "count(" + bad + ")", () -> x.count(bad));
        }
        due("count(0)", x.count(0), 7);
        due("count(10)", x.count(10), 1);
    }

    // ---- promise 13

    private static void wouldWipe() {
        says("Promise 13", "0 lines that would be wiped away, if the stove fell now");
        ChalkSlate x = new ChalkSlate();
        due("would(0) upon an empty slate", x.would(0), 0);
        x.begin();
        due("would(0) with one line", x.would(0), 1);
        x.blow();
        due("would(0) with one dry line", x.would(0), 0);
        x.cook(0, 0, 1);
        due("would(0) with one dry line of two", x.would(0), 1);
        due("would(0) of a full slate", Kitchens.fullByDrop().would(0), 120);
        due("would(0) of a full slate, all dry", Kitchens.fullByFinish().would(0), 0);
        due("would(0) of a full slate, all dry but the last", Kitchens.fullByFall().would(0), 1);
    }

    private static void wouldDoAnew() {
        says("Promise 13", "1 lines that would be done anew");
        ChalkSlate x = new ChalkSlate();
        x.begin();
        x.blow();
        due("would(1) without a change", x.would(1), 0);
        x.cook(0, 0, 1);
        due("would(1) of a change that is not dry", x.would(1), 0);
        x.blow();
        due("would(1) of a dry change", x.would(1), 1);
        x.shelve(0);
        due("would(1) of a change at the stamp", x.would(1), 0);
        x.cook(0, 0, 2);
        due("would(1) of a change behind the stamp, not dry", x.would(1), 0);
        x.drop(0);
        x.blow();
        due("would(1) of a change and two undoings behind the stamp", x.would(1), 3);
        ChalkSlate full = Kitchens.fullByDrop();
        due("would(1) of a full slate, none dry", full.would(1), 0);
        full.blow();
        due("would(1) of a full slate", full.would(1), 118);
    }

    private static void wouldTakeBack() {
        says("Promise 13", "2 lines that would be taken back");
        ChalkSlate x = new ChalkSlate();
        x.begin();
        x.cook(0, 0, 1);
        due("would(2) of a change that is not dry", x.would(2), 0);
        x.shelve(0);
        due("would(2) of a dry change at the stamp", x.would(2), 1);
        x.drop(0);
        due("would(2) of a change whose undoing is not dry", x.would(2), 1);
        x.shelve(0);
        due("would(2) of a change whose undoing is dry, but not the line of kind 4", x.would(2), 0);
        x.blow();
        due("would(2) of a dropped dish", x.would(2), 0);
        x.begin();
        x.cook(1, 0, 1);
        x.finish(1);
        due("would(2) of a finished dish", x.would(2), 0);
        ChalkSlate noRoom = Kitchens.withRoom(0);
        noRoom.blow();
        due("would(2) without room", noRoom.would(2), 59);
    }

    private static void wouldFirst() {
        says("Promise 13", "3 the first line that would be done anew, -1 without any");
        ChalkSlate x = new ChalkSlate();
        due("would(3) upon an empty slate", x.would(3), -1);
        x.begin();
        x.cook(0, 0, 1);
        due("would(3) with no line dry", x.would(3), -1);
        x.blow();
        due("would(3), the smallest one", x.would(3), 1);
        x.cook(0, 1, 1);
        x.shelve(0);
        x.blow();
        due("would(3) with one pot upon the shelf", x.would(3), 2);
        x.shelve(1);
        due("would(3) with all pots upon the shelf", x.would(3), -1);
        ChalkSlate last = new ChalkSlate();
        last.begin();
        Kitchens.cookTimes(last, 0, 57);
        last.drop(0);
        last.begin();
        last.cook(1, 7, 1);
        last.shelve(0);
        last.shelve(7);
        last.drop(1);
        due("would(3) with the undoing not dry", last.would(3), -1);
        last.blow();
        due("would(3), the greatest one", last.would(3), 118);
    }

    private static void wouldForget() {
        says("Promise 13", "4 dishes that would be forgotten by that, and are not now");
        ChalkSlate x = new ChalkSlate();
        due("would(4) without dishes", x.would(4), 0);
        for (int dish = 0; dish < 20; dish++) {
            x.begin();
            due("would(4) with " + (dish + 1) + " dishes", x.would(4), dish + 1);
        }
        x.drop(0);
        due("would(4) with a dropped dish", x.would(4), 20);
        x.cook(19, 0, 1);
        x.fall();
        due("would(4) of what is forgotten already", x.would(4), 0);
        ChalkSlate y = new ChalkSlate();
        y.begin();
        y.begin();
        y.fall();
        y.begin();
        y.blow();
        due("would(4) of a begun line that is dry", y.would(4), 0);
        y.begin();
        due("would(4) of a begun line that is not, with two forgotten", y.would(4), 1);
        y.finish(3);
        due("would(4) of a finished dish", y.would(4), 0);
    }

    private static void wouldChangesNothing() {
        says("Promise 13", "Returns this (nothing is changed).");
        List<Supplier<ChalkSlate>> kitchens = someKitchens();
        for (int i = 0; i < kitchens.size(); i++) {
            ChalkSlate x = kitchens.get(i).get();
            ChalkSlate twin = kitchens.get(i).get();
            for (int what = 0; what < 5; what++) {
                long before = x.digest();
                int answer = x.would(what);
                due("digest() behind would(" + what + ") in kitchen " + i, x.digest(), before);
                due("would(" + what + ") again in kitchen " + i, x.would(what), answer);
            }
            due("fall() behind would in kitchen " + i, x.fall(), twin.fall());
            due("digest() behind would and fall in kitchen " + i, x.digest(), twin.digest());
        }
    }

    private static void wouldRefuses() {
        says("Promise 13", "Throws IndexOutOfBoundsException if what is not 0 to 4");
        ChalkSlate x = Kitchens.dishesOfAllKinds();
        for (int bad : beyond(5)) {
            refused(x, INDEX, "would(" + bad + ")", () -> x.would(bad));
        }
        woulds(x, 3, 0, 0, -1, 2);
    }

    // ---- promise 14

    private static void leftAtTheEdges() {
        says("Promise 14", "Returns the spoons that would be in it on the stove, if this fell now");
        ChalkSlate x = new ChalkSlate();
        lefts(x, 0, 0, 0, 0, 0, 0, 0, 0);
        x.begin();
        x.cook(0, 0, 999);
        x.cook(0, 7, 999);
        due("left(0) with no line dry", x.left(0), 0);
        x.shelve(0);
        due("left(0) upon the shelf, but of an open dish", x.left(0), 0);
        x.finish(0);
        lefts(x, 999, 0, 0, 0, 0, 0, 0, 999);
        x.begin();
        x.cook(1, 0, 0);
        x.cook(1, 7, 0);
        x.shelve(0);
        lefts(x, 999, 0, 0, 0, 0, 0, 0, 999);
        x.finish(1);
        lefts(x, 0, 0, 0, 0, 0, 0, 0, 0);
        ChalkSlate noRoom = Kitchens.withRoom(0);
        noRoom.blow();
        due("left(0) without room, taken back 59 times", noRoom.left(0), 0);
        noRoom.finish(0);
        due("left(0) finished", noRoom.left(0), 59);
    }

    private static void leftOfPartlyDryChanges() {
        says("Promise 14", "Returns the spoons that would be in it on the stove, if this fell now");
        ChalkSlate x = new ChalkSlate();
        x.begin();
        x.cook(0, 0, 10);
        x.cook(0, 1, 20);
        x.finish(0);
        x.begin();
        x.cook(1, 0, 11);
        x.cook(1, 1, 21);
        x.cook(1, 0, 12);
        x.shelve(1);
        x.begin();
        x.cook(2, 2, 30);
        lefts(x, 10, 20, 0, 0, 0, 0, 0, 0);
        x.finish(2);
        lefts(x, 10, 20, 30, 0, 0, 0, 0, 0);
        x.drop(1);
        lefts(x, 10, 20, 30, 0, 0, 0, 0, 0);
        // 11 takes 7 back (pot 0), 12 takes 6 back (pot 1), 13 takes 5 back (pot 0), 14 dropped.
        x.shelve(1);
        lefts(x, 10, 20, 30, 0, 0, 0, 0, 0);
        x.fall();
        for (int pot = 0; pot < 3; pot++) {
            due("pot(" + pot + ", 0) after the fall", x.pot(pot, 0), 10 + 10 * pot);
        }
    }

    private static void leftChangesNothing() {
        says("Promise 14", "Returns the spoons that would be in it on the stove, if this fell now (nothing is changed).");
        List<Supplier<ChalkSlate>> kitchens = someKitchens();
        for (int i = 0; i < kitchens.size(); i++) {
            ChalkSlate x = kitchens.get(i).get();
            ChalkSlate twin = kitchens.get(i).get();
            int[] answers = new int[8];
            for (int pot = 0; pot < 8; pot++) {
                long before = x.digest();
                answers[pot] = x.left(pot);
                due("digest() behind left(" + pot + ") in kitchen " + i, x.digest(), before);
                due("left(" + pot + ") again in kitchen " + i, x.left(pot), answers[pot]);
            }
            due("fall() behind left in kitchen " + i, x.fall(), twin.fall());
            due("digest() behind left and fall in kitchen " + i, x.digest(), twin.digest());
            for (int pot = 0; pot < 8; pot++) {
                due("pot(" + pot + ", 0) after the fall in kitchen " + i, x.pot(pot, 0), answers[pot]);
            }
        }
    }

    private static void leftRefuses() {
        says("Promise 14", "Throws IndexOutOfBoundsException if pot is not 0 to 7");
        ChalkSlate x = Kitchens.dishesOfAllKinds();
        for (int bad : beyond(8)) {
            refused(x, INDEX, "left(" + bad + ")", () -> x.left(bad));
        }
        lefts(x, 0, 0, 0, 0, 0, 0, 0, 0);
    }

    private static List<Supplier<ChalkSlate>> someKitchens() {
        List<Supplier<ChalkSlate>> kitchens = new ArrayList<>();
        kitchens.add(ChalkSlate::new);
        kitchens.add(Kitchens::dishesOfAllKinds);
        kitchens.add(Kitchens::fullByDrop);
        kitchens.add(Kitchens::fullByFinish);
        kitchens.add(Kitchens::fullByFall);
        kitchens.add(Kitchens::fullOfDishes);
        kitchens.add(PromisesBoundaryTest::partlyDry);
        return kitchens;
    }

    /** Dry are some of an undoing, and changes of an open and of a finished dish ahead of and behind the stamp. */
    private static ChalkSlate partlyDry() {
        ChalkSlate x = new ChalkSlate();
        x.begin();
        x.cook(0, 0, 100);
        x.cook(0, 1, 200);
        x.shelve(0);
        x.cook(0, 0, 101);
        x.finish(0);
        x.begin();
        x.begin();
        x.cook(1, 0, 102);
        x.cook(2, 2, 300);
        x.cook(1, 1, 202);
        x.cook(2, 2, 301);
        x.drop(1);
        x.shelve(1);
        x.begin();
        x.cook(3, 3, 400);
        return x;
    }

    // ---- promise 15

    private static void mean() {
        says("Promise 15", "Returns the mean of the spoons of all pots on the stove.");
        ChalkSlate x = new ChalkSlate();
        dueDouble("mean() of empty pots", x.mean(), 0.0);
        due("mean() of empty pots is not -0.0", Double.doubleToRawLongBits(x.mean()), 0L);
        x.begin();
        x.cook(0, 7, 1);
        dueDouble("mean() of a single spoon", x.mean(), 0.125);
        for (int pot = 0; pot < 8; pot++) {
            x.cook(0, pot, 999);
        }
        dueDouble("mean() of full pots", x.mean(), 999.0);
        x.cook(0, 0, 998);
        dueDouble("mean() of a spoon less", x.mean(), 998.875);
        x.shelve(7);
        x.finish(0);
        dueDouble("mean() ahead of a fall", x.mean(), 998.875);
        x.begin();
        x.cook(1, 7, 0);
        dueDouble("mean() of the stove alone", x.mean(), 874.0);
        x.fall();
        dueDouble("mean() after a fall", x.mean(), 998.875);
    }

    // ---- promise 16

    private static void digestWrapsAround() {
        says("Promise 16", "A number d starts with 1291; for each of the following numbers x, d becomes d * 31 + x, which"
                + " wraps around as a 64-bit integer");
        List<Integer> numbers = new ArrayList<>();
        for (int what = 0; what < 11; what++) {
            numbers.add(what == 7 ? 120 : 0);
        }
        for (int pot = 0; pot < 8; pot++) {
            numbers.addAll(List.of(0, 0, -1, -1, -1));
        }
        due("digest() of a new object", new ChalkSlate().digest(), wrapped(numbers));
        ChalkSlate x = new ChalkSlate();
        x.fall();
        numbers.set(10, 1);
        due("digest() of an empty kitchen after a fall", x.digest(), wrapped(numbers));
        due("digest() again", x.digest(), wrapped(numbers));
    }

    private static void digestInOrder() {
        says("Promise 16", "what count() tells, in its order; for each pot what pot() tells, for each dish what dish()"
                + " tells, for each line what line() tells, all in their order");
        ChalkSlate x = new ChalkSlate();
        x.begin();
        x.cook(0, 0, 999);
        List<Integer> numbers = new ArrayList<>(List.of(2, 0, 1, 1, 0, 0, 0, 116, 999, 0));
        numbers.addAll(List.of(0, 999, 0, -1, 0, 1));
        for (int pot = 1; pot < 8; pot++) {
            numbers.addAll(List.of(0, 0, -1, -1, -1));
        }
        numbers.addAll(List.of(0, 2, 1, 1, 1));
        numbers.addAll(List.of(0, 0, -1, -1, -1, -1, 0));
        numbers.addAll(List.of(0, 1, 0, 0, 999, -1, 0));
        due("digest()", x.digest(), wrapped(numbers));
    }

    private static void digestOfEverything() {
        says("Promise 16", "what count() tells, in its order; for each pot what pot() tells, for each dish what dish()"
                + " tells, for each line what line() tells, all in their order");
        List<Supplier<ChalkSlate>> kitchens = someKitchens();
        for (int i = 0; i < kitchens.size(); i++) {
            due("digest() of kitchen " + i, kitchens.get(i).get().digest(), wrapped(answersOf(kitchens.get(i))));
        }
    }

    /** Asks several kitchens of one kind, as none of them answers more than 512 calls. */
    private static List<Integer> answersOf(Supplier<ChalkSlate> kitchen) {
        List<Integer> numbers = new ArrayList<>();
        ChalkSlate x = kitchen.get();
        for (int what = 0; what < 11; what++) {
            numbers.add(x.count(what));
        }
        for (int i = 0; i < 8 * 5; i++) {
            numbers.add(x.pot(i / 5, i % 5));
        }
        int dishes = x.count(2);
        for (int i = 0; i < dishes * 5; i++) {
            numbers.add(x.dish(i / 5, i % 5));
        }
        int lines = x.count(0);
        for (int line = 0; line < lines; line++) {
            if (line % MOST_LINES_ASKED == 0) {
                x = kitchen.get();
            }
            for (int what = 0; what < 7; what++) {
                numbers.add(x.line(line, what));
            }
        }
        return numbers;
    }

    /** Reckons without wrapping around, and cuts to 64 bits at the end alone. */
    private static long wrapped(List<Integer> numbers) {
        BigInteger d = BigInteger.valueOf(1291);
        for (int number : numbers) {
            d = d.multiply(BigInteger.valueOf(31)).add(BigInteger.valueOf(number));
        }
        return d.longValue();
    }
}
