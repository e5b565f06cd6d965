import java.util.function.Supplier;

/** For each sentence ahead of the promises that names a boundary case, a test that names it. */
public final class TermsBoundaryTest extends Checks {
    private static final int[] NO_SPOONS = {
        -1, 1000, 1001, 1024, -999, -1000, 65536, 1 << 30, Integer.MIN_VALUE, Integer.MAX_VALUE,
    };

    public static void main(String[] args) {
        lastOfAllCalls();
        eightPots();
        noOtherPots();
        spoonsOnTheStove();
        spoonsOnTheShelf();
        stamps();
        greatestStamp();
        mostLines();
        linesBesideTheSlate();
        dryLines();
        kindsOfLines();
        latestLines();
        latestLineAfterAFall();
        mostDishes();
        forgottenDishesCount();
        forGood();
        forGoodButForAFall();
        holding();
        holdingEightPots();
        holdingNoMore();
        undoing();
        undoingWithoutChanges();
        undoingOfOneAlone();
        undoingTheRest();
        roomForBegun();
        roomForAChange();
        roomForNoOtherKinds();
        roomOfOpenDishesAlone();
        roomOfForgottenDishes();
        wipingAllAndNothing();
        wipingAtTheEdge();
        dishesAsTheirLinesTell();
        droppedDishAsItsLinesTell();
        stoveFromTheShelf();
        doneAnewBehindTheStamp();
        doneAnewUndoings();
        undoneByAFall();
        undoneByAFallTwenty();
        undoneByAFallNone();
        undoneByAFallPartly();
        refusedCallsChangeNothing();
        firstNamedException();
        firstNamedExceptionOfAll();
        endWith("all that the terms say at their edges holds");
    }

    // ---- use

    private static void lastOfAllCalls() {
        says("What it is", "An object is used for at most 512 calls after it has been made");
        ChalkSlate x = new ChalkSlate();
        for (int n = 1; n < 512; n++) {
            due("fall() as call " + n, x.fall(), 0);
        }
        due("count(10) as call 512", x.count(10), 511);

        ChalkSlate y = Kitchens.withRoom(0);
        for (int n = 61; n < 512; n++) {
            due("shelve(0) as call " + n, y.shelve(0), n == 61 ? 60 : 0);
        }
        due("drop(0) as call 512", y.drop(0), 59);
    }

    // ---- pots

    private static void eightPots() {
        says("Terms, Pots", "There are 8, 0 to 7");
        ChalkSlate x = new ChalkSlate();
        x.begin();
        for (int pot = 0; pot < 8; pot++) {
            due("cook(0, " + pot + ", ..)", x.cook(0, pot, 10 + pot), 0);
        }
        for (int pot = 0; pot < 8; pot++) {
            due("left(" + pot + ")", x.left(pot), 0);
            due("shelve(" + pot + ")", x.shelve(pot), pot == 0 ? 2 : 1);
            potIs(x, pot, 10 + pot, 10 + pot, pot + 1, 0, pot + 1);
        }
        due("count(8)", x.count(8), 108);
        due("count(9)", x.count(9), 108);
        x.finish(0);
        lefts(x, 10, 11, 12, 13, 14, 15, 16, 17);
    }

    private static void noOtherPots() {
        says("Terms, Pots", "There are 8, 0 to 7");
        ChalkSlate x = new ChalkSlate();
        x.begin();
        x.cook(0, 0, 1);
        x.cook(0, 7, 1);
        for (int bad : beyond(8)) {
            refused(x, INDEX, "cook(0, " + bad + ", 1)", () -> x.cook(0, bad, 1));
            refused(x, INDEX, "shelve(" + bad + ")", () -> x.shelve(bad));
            refused(x, INDEX, "pot(" + bad + ", 0)", () -> x.pot(bad, 0));
            refused(x, INDEX, "left(" + bad + ")", () -> x.left(bad));
        }
    }

    private static void spoonsOnTheStove() {
        says("Terms, Pots", "each has spoons on the stove, 0 (at first) to 999");
        ChalkSlate x = new ChalkSlate();
        for (int pot = 0; pot < 8; pot++) {
            due("pot(" + pot + ", 0) at first", x.pot(pot, 0), 0);
        }
        x.begin();
        for (int bad : NO_SPOONS) {
            refused(x, ARGUMENT, "cook(0, 0, " + bad + ")", () -> x.cook(0, 0, bad));
        }
        for (int pot = 0; pot < 8; pot++) {
            due("cook(0, " + pot + ", 0)", x.cook(0, pot, 0), 0);
            due("cook(0, " + pot + ", 999)", x.cook(0, pot, 999), 0);
            due("pot(" + pot + ", 0)", x.pot(pot, 0), 999);
        }
        due("count(8)", x.count(8), 7992);
        due("cook(0, 0, 0) ahead of which there are 999", x.cook(0, 0, 0), 999);
        due("pot(0, 0)", x.pot(0, 0), 0);
        lineIs(x, 17, 0, 1, 0, 999, 0, -1, 0);
    }

    private static void spoonsOnTheShelf() {
        says("Terms, Pots", "spoons on the shelf, 0 (at first) to 999");
        ChalkSlate x = new ChalkSlate();
        for (int pot = 0; pot < 8; pot++) {
            due("pot(" + pot + ", 1) at first", x.pot(pot, 1), 0);
        }
        x.begin();
        for (int pot = 0; pot < 8; pot++) {
            x.cook(0, pot, 999);
            due("pot(" + pot + ", 1) ahead of shelve", x.pot(pot, 1), 0);
            x.shelve(pot);
            due("pot(" + pot + ", 1)", x.pot(pot, 1), 999);
        }
        due("count(9)", x.count(9), 7992);
        x.cook(0, 7, 0);
        due("pot(7, 1) is as it was", x.pot(7, 1), 999);
        x.shelve(7);
        due("pot(7, 1) is 0 again", x.pot(7, 1), 0);
        due("count(9)", x.count(9), 6993);
    }

    private static void stamps() {
        says("Terms, Pots", "with a stamp: the number of the line up to which these are told, -1 (at first) for none");
        ChalkSlate x = new ChalkSlate();
        for (int pot = 0; pot < 8; pot++) {
            due("pot(" + pot + ", 2) at first", x.pot(pot, 2), -1);
        }
        x.begin();
        x.shelve(0);
        due("pot(0, 2) of a pot without a line", x.pot(0, 2), -1);
        x.cook(0, 0, 5);
        due("pot(0, 2) ahead of shelve", x.pot(0, 2), -1);
        x.shelve(0);
        due("pot(0, 2), the smallest one", x.pot(0, 2), 1);
        x.cook(0, 0, 6);
        x.cook(0, 1, 7);
        x.blow();
        due("pot(0, 2) is as it was", x.pot(0, 2), 1);
        due("pot(1, 2) of a pot that was not shelved", x.pot(1, 2), -1);
        x.fall();
        due("pot(0, 2) after a fall", x.pot(0, 2), 1);
        due("pot(1, 2) after a fall", x.pot(1, 2), -1);
    }

    private static void greatestStamp() {
        says("Terms, Pots", "with a stamp: the number of the line up to which these are told, -1 (at first) for none");
        ChalkSlate x = Kitchens.fullByDrop();
        due("pot(0, 4)", x.pot(0, 4), 118);
        due("shelve(0)", x.shelve(0), 119);
        potIs(x, 0, 0, 0, 118, -1, 118);
        due("fall()", x.fall(), 0);
        potIs(x, 0, 0, 0, 118, -1, 118);
        counts(x, 120, 119, 1, 0, 0, 1, 0, 0, 0, 0, 1);
    }

    // ---- slate

    private static void mostLines() {
        says("Terms, Slate", "It has at most 120 lines, numbered from 0");
        ChalkSlate dropped = Kitchens.fullByDrop();
        counts(dropped, 120, 0, 1, 0, 0, 1, 0, 0, 0, 0, 0);
        lineIs(dropped, 0, 0, 0, -1, -1, -1, -1, 0);
        lineIs(dropped, 59, 0, 1, 0, 58, 59, -1, 0);
        lineIs(dropped, 60, 0, 3, 0, 59, 58, 59, 0);
        lineIs(dropped, 118, 0, 3, 0, 1, 0, 1, 0);
        lineIs(dropped, 119, 0, 4, -1, -1, -1, -1, 0);
        ChalkSlate finished = Kitchens.fullByFinish();
        counts(finished, 120, 120, 2, 0, 1, 1, 0, 0, 0, 0, 0);
        lineIs(finished, 118, 1, 0, -1, -1, -1, -1, 1);
        lineIs(finished, 119, 1, 2, -1, -1, -1, -1, 1);
        ChalkSlate fallen = Kitchens.fullByFall();
        counts(fallen, 120, 119, 2, 0, 0, 2, 0, 0, 0, 0, 1);
        lineIs(fallen, 119, 1, 4, -1, -1, -1, -1, 0);
        refused(dropped, STATE, "begin() when the slate is full", () -> dropped.begin());
        refused(finished, STATE, "begin() when the slate is full", () -> finished.begin());
        refused(fallen, STATE, "begin() when the slate is full", () -> fallen.begin());
    }

    private static void linesBesideTheSlate() {
        says("Terms, Slate", "It has at most 120 lines, numbered from 0");
        ChalkSlate empty = new ChalkSlate();
        refused(empty, INDEX, "line(0, 0) of an empty slate", () -> empty.line(0, 0));
        for (int bad : beyond(120)) {
            refused(empty, INDEX, "line(" + bad + ", 0) of an empty slate", () -> empty.line(bad, 0));
        }
        ChalkSlate full = Kitchens.fullByDrop();
        for (int bad : beyond(120)) {
            refused(full, INDEX, "line(" + bad + ", 0) of a full slate", () -> full.line(bad, 0));
        }
        ChalkSlate one = new ChalkSlate();
        one.begin();
        due("line(0, 1), the only one", one.line(0, 1), 0);
        for (int bad : beyond(1)) {
            refused(one, INDEX, "line(" + bad + ", 0) behind the only one", () -> one.line(bad, 0));
        }
    }

    private static void dryLines() {
        says("Terms, Slate", "so many first ones are dry (0, at first)");
        ChalkSlate x = new ChalkSlate();
        due("count(1) at first", x.count(1), 0);
        x.begin();
        x.cook(0, 0, 1);
        x.cook(0, 1, 1);
        for (int line = 0; line < 3; line++) {
            due("line(" + line + ", 6) with no line dry", x.line(line, 6), 0);
        }
        x.shelve(0);
        due("count(1)", x.count(1), 2);
        due("line(0, 6), the first one", x.line(0, 6), 1);
        due("line(1, 6), the last one that is dry", x.line(1, 6), 1);
        due("line(2, 6), the first one that is not", x.line(2, 6), 0);
        x.blow();
        due("count(1) with all lines dry", x.count(1), 3);
        due("line(2, 6) with all lines dry", x.line(2, 6), 1);
        x.cook(0, 1, 2);
        due("line(3, 6) behind dry ones", x.line(3, 6), 0);

        ChalkSlate full = Kitchens.fullByDrop();
        due("line(0, 6) with no line dry", full.line(0, 6), 0);
        due("blow() upon a full slate", full.blow(), 120);
        due("count(1) of a full slate", full.count(1), 120);
        due("line(119, 6) of a full slate", full.line(119, 6), 1);
    }

    private static void kindsOfLines() {
        says("Terms, Slate", "A line is of a dish, and of a kind: 0 begun; 1 a change of a pot, with its spoons ahead"
                + " of it and behind it; 2 finished; 3 an undoing, likewise of a pot, that takes a line of kind 1 back;"
                + " 4 dropped.");
        ChalkSlate x = new ChalkSlate();
        x.begin();
        x.begin();
        x.cook(1, 7, 999);
        x.drop(1);
        x.finish(0);
        lineIs(x, 0, 0, 0, -1, -1, -1, -1, 1);
        lineIs(x, 1, 1, 0, -1, -1, -1, -1, 1);
        lineIs(x, 2, 1, 1, 7, 0, 999, -1, 1);
        lineIs(x, 3, 1, 3, 7, 999, 0, 2, 1);
        lineIs(x, 4, 1, 4, -1, -1, -1, -1, 1);
        lineIs(x, 5, 0, 2, -1, -1, -1, -1, 1);
        due("count(0)", x.count(0), 6);
    }

    private static void latestLines() {
        says("Terms, Slate", "Latest line of a pot: the last one of kind 1 or 3 with it; -1 without one.");
        ChalkSlate x = new ChalkSlate();
        due("pot(0, 4) upon an empty slate", x.pot(0, 4), -1);
        x.begin();
        due("pot(0, 4) with a line of kind 0 alone", x.pot(0, 4), -1);
        x.cook(0, 1, 5);
        due("pot(0, 4) with a line of another pot", x.pot(0, 4), -1);
        due("pot(1, 4)", x.pot(1, 4), 1);
        x.cook(0, 0, 5);
        x.cook(0, 1, 5);
        due("pot(0, 4)", x.pot(0, 4), 2);
        due("pot(1, 4) with two lines", x.pot(1, 4), 3);
        x.drop(0);
        // 4 takes 3 back (pot 1), 5 takes 2 back (pot 0), 6 takes 1 back (pot 1), 7 dropped.
        due("pot(0, 4), a line of kind 3", x.pot(0, 4), 5);
        due("pot(1, 4), a line of kind 3", x.pot(1, 4), 6);
        x.begin();
        x.finish(1);
        due("pot(1, 4) ahead of lines of kinds 4, 0 and 2", x.pot(1, 4), 6);
        due("pot(7, 4) without a line", x.pot(7, 4), -1);
        due("shelve(7) without a line", x.shelve(7), 0);
    }

    private static void latestLineAfterAFall() {
        says("Terms, Slate", "Latest line of a pot: the last one of kind 1 or 3 with it; -1 without one.");
        ChalkSlate x = new ChalkSlate();
        x.begin();
        x.cook(0, 0, 5);
        x.finish(0);
        x.begin();
        x.cook(1, 0, 6);
        x.cook(1, 1, 7);
        x.fall();
        due("pot(0, 4), of which the last one is wiped away", x.pot(0, 4), 1);
        due("pot(1, 4), of which the only one is wiped away", x.pot(1, 4), -1);
    }

    // ---- dishes

    private static void mostDishes() {
        says("Terms, Dishes", "There are at most 20 in all, numbered likewise");
        ChalkSlate x = new ChalkSlate();
        for (int bad : new int[] {0, 19, -1, 20, Integer.MIN_VALUE, Integer.MAX_VALUE}) {
            refused(x, INDEX, "dish(" + bad + ", 0) without dishes", () -> x.dish(bad, 0));
        }
        for (int dish = 0; dish < 20; dish++) {
            refused(x, INDEX, "dish(" + dish + ", 0) ahead of its begin", () -> x.dish(x.count(2), 0));
            due("begin()", x.begin(), dish);
            due("dish(" + dish + ", 0)", x.dish(dish, 0), 0);
        }
        due("count(2)", x.count(2), 20);
        refused(x, STATE, "begin() as the 21st", () -> x.begin());
        due("cook(19, 0, 1)", x.cook(19, 0, 1), 0);
        for (int bad : beyond(20)) {
            refused(x, INDEX, "cook(" + bad + ", 0, 1)", () -> x.cook(bad, 0, 1));
            refused(x, INDEX, "finish(" + bad + ")", () -> x.finish(bad));
            refused(x, INDEX, "drop(" + bad + ")", () -> x.drop(bad));
            refused(x, INDEX, "dish(" + bad + ", 0)", () -> x.dish(bad, 0));
        }
    }

    private static void forgottenDishesCount() {
        says("Terms, Dishes", "There are at most 20 in all, numbered likewise");
        ChalkSlate x = new ChalkSlate();
        for (int dish = 0; dish < 19; dish++) {
            x.begin();
        }
        x.fall();
        due("count(2) with all forgotten", x.count(2), 19);
        due("count(0) with all forgotten", x.count(0), 0);
        due("begin() as the 20th", x.begin(), 19);
        lineIs(x, 0, 19, 0, -1, -1, -1, -1, 0);
        refused(x, STATE, "begin() as the 21st", () -> x.begin());
        x.finish(19);
        refused(x, STATE, "begin() as the 21st, with none open", () -> x.begin());
        x.fall();
        refused(x, STATE, "begin() as the 21st, after another fall", () -> x.begin());
        for (int dish = 0; dish < 19; dish++) {
            dishIs(x, dish, 3, 0, 0, 0, -1);
        }
        dishIs(x, 19, 1, 2, 0, 0, 1);
    }

    private static void forGood() {
        says("Terms, Dishes", "each is open (0, at first), finished (1), dropped (2), or forgotten (3), the last three"
                + " for good but for a fall");
        ChalkSlate x = Kitchens.dishesOfAllKinds();
        int[] ended = {Kitchens.FINISHED_DISH, Kitchens.DROPPED_DISH, Kitchens.FORGOTTEN_DISH};
        due("dish(3, 0), open at first", x.dish(Kitchens.OPEN_DISH, 0), 0);
        for (int dish : ended) {
            due("dish(" + dish + ", 0)", x.dish(dish, 0), dish + 1);
            refused(x, STATE, "cook(" + dish + ", 0, 1)", () -> x.cook(dish, 0, 1));
            refused(x, STATE, "finish(" + dish + ")", () -> x.finish(dish));
            refused(x, STATE, "drop(" + dish + ")", () -> x.drop(dish));
        }
        x.drop(Kitchens.OPEN_DISH);
        x.finish(Kitchens.HOLDING_DISH);
        x.fall();
        for (int dish : ended) {
            due("dish(" + dish + ", 0) after all that", x.dish(dish, 0), dish + 1);
        }
        counts(x, 9, 9, 5, 0, 2, 2, 1, 111, 60, 0, 2);
    }

    private static void forGoodButForAFall() {
        says("Terms, Dishes", "the last three for good but for a fall");
        ChalkSlate x = new ChalkSlate();
        x.begin();
        x.begin();
        x.cook(0, 0, 5);
        x.blow();
        x.drop(0);
        x.drop(1);
        x.begin();
        x.drop(2);
        x.fall();
        // The lines of kind 4 were wiped away: 1 and 0 were open in the fall, 2 never had been begun.
        dishIs(x, 0, 2, 4, 0, 0, 5);
        dishIs(x, 1, 2, 2, 0, 0, 3);
        dishIs(x, 2, 3, 0, 0, 0, -1);
        lineIs(x, 3, 1, 4, -1, -1, -1, -1, 0);
        lineIs(x, 4, 0, 3, 0, 5, 0, 2, 0);
        lineIs(x, 5, 0, 4, -1, -1, -1, -1, 0);
        counts(x, 6, 3, 3, 0, 0, 2, 1, 114, 0, 0, 1);
    }

    private static void holding() {
        says("Terms, Dishes", "An open dish holds all pots of its lines of kind 1.");
        ChalkSlate x = new ChalkSlate();
        x.begin();
        x.begin();
        due("pot(0, 3) with lines of kind 0 alone", x.pot(0, 3), -1);
        due("dish(0, 3) without a line of kind 1", x.dish(0, 3), 0);
        x.cook(1, 0, 0);
        due("pot(0, 3), of which no spoon was changed", x.pot(0, 3), 1);
        refused(x, STATE, "cook(0, 0, 1) of a pot of dish 1", () -> x.cook(0, 0, 1));
        x.cook(0, 7, 1);
        x.cook(0, 6, 1);
        x.cook(0, 7, 2);
        due("dish(0, 3), a pot cooked twice", x.dish(0, 3), 2);
        due("pot(7, 3)", x.pot(7, 3), 0);
        due("pot(6, 3) behind a change of another one", x.pot(6, 3), 0);
        refused(x, STATE, "cook(1, 6, 1) of a pot of dish 0", () -> x.cook(1, 6, 1));
        refused(x, STATE, "cook(1, 7, 1) of a pot of dish 0", () -> x.cook(1, 7, 1));
        due("cook(0, 6, 3) of its own pot", x.cook(0, 6, 3), 1);
        due("shelve(6) of a held pot", x.shelve(6), 7);
        due("pot(6, 3) upon the shelf", x.pot(6, 3), 0);
        refused(x, STATE, "cook(1, 6, 1) of a pot upon the shelf", () -> x.cook(1, 6, 1));
    }

    private static void holdingEightPots() {
        says("Terms, Dishes", "An open dish holds all pots of its lines of kind 1.");
        ChalkSlate x = new ChalkSlate();
        x.begin();
        x.begin();
        for (int pot = 0; pot < 8; pot++) {
            x.cook(0, pot, 9);
        }
        due("dish(0, 3)", x.dish(0, 3), 8);
        due("dish(1, 3)", x.dish(1, 3), 0);
        for (int pot = 0; pot < 8; pot++) {
            int held = pot;
            due("pot(" + pot + ", 3)", x.pot(pot, 3), 0);
            refused(x, STATE, "cook(1, " + pot + ", 1)", () -> x.cook(1, held, 1));
        }
        x.begin();
        x.drop(0);
        x.cook(2, 7, 1);
        x.cook(1, 0, 1);
        due("pot(7, 3)", x.pot(7, 3), 2);
        due("pot(0, 3)", x.pot(0, 3), 1);
        due("dish(0, 3), dropped", x.dish(0, 3), 0);
    }

    private static void holdingNoMore() {
        says("Terms, Dishes", "An open dish holds all pots of its lines of kind 1.");
        ChalkSlate x = new ChalkSlate();
        for (int dish = 0; dish < 4; dish++) {
            x.begin();
        }
        x.cook(0, 0, 1);
        x.cook(1, 1, 1);
        x.finish(0);
        x.drop(1);
        due("pot(0, 3) of a finished dish", x.pot(0, 3), -1);
        due("pot(1, 3) of a dropped dish", x.pot(1, 3), -1);
        due("dish(0, 3), finished", x.dish(0, 3), 0);
        due("cook(3, 0, 2) of a pot that is free again", x.cook(3, 0, 2), 1);
        due("cook(3, 1, 2) of a pot that is free again", x.cook(3, 1, 2), 0);
        due("pot(0, 3)", x.pot(0, 3), 3);
        x.begin();
        x.cook(4, 2, 2);
        x.fall();
        for (int pot = 0; pot < 8; pot++) {
            due("pot(" + pot + ", 3) after a fall", x.pot(pot, 3), -1);
        }
        due("dish(4, 0), forgotten", x.dish(4, 0), 3);
        x.begin();
        due("cook(5, 2, 5) of a pot that is free again", x.cook(5, 2, 5), 0);
    }

    // ---- undoing

    private static void undoing() {
        says("Terms, Undoing a dish", "its lines of kind 1 that no line of kind 3 takes back are taken back, from the"
                + " last one to the first one, each by a line of kind 3, with the spoons of its pot on the stove ahead"
                + " of this, and behind this those that were there ahead of the line that is taken back; these are on"
                + " the stove then. Behind them there is a line of kind 4, and the dish is dropped.");
        ChalkSlate x = new ChalkSlate();
        x.begin();
        x.cook(0, 0, 100);
        x.cook(0, 7, 999);
        x.finish(0);
        x.begin();
        x.begin();
        x.cook(1, 7, 0);
        x.cook(2, 1, 50);
        x.cook(1, 0, 100);
        x.cook(1, 7, 1);
        x.cook(2, 1, 51);
        due("drop(1)", x.drop(1), 3);
        lineIs(x, 11, 1, 3, 7, 1, 0, 9, 0);
        lineIs(x, 12, 1, 3, 0, 100, 100, 8, 0);
        lineIs(x, 13, 1, 3, 7, 0, 999, 6, 0);
        lineIs(x, 14, 1, 4, -1, -1, -1, -1, 0);
        due("pot(0, 0)", x.pot(0, 0), 100);
        due("pot(7, 0)", x.pot(7, 0), 999);
        due("pot(1, 0) of another dish", x.pot(1, 0), 51);
        dishIs(x, 1, 2, 8, 0, 0, 14);
        dishIs(x, 2, 0, 3, 2, 1, 10);
        dishIs(x, 0, 1, 4, 2, 0, 3);
        counts(x, 15, 4, 3, 1, 1, 1, 0, 102, 1150, 0, 0);
    }

    private static void undoingWithoutChanges() {
        says("Terms, Undoing a dish", "Behind them there is a line of kind 4, and the dish is dropped.");
        ChalkSlate x = new ChalkSlate();
        x.begin();
        x.begin();
        x.cook(1, 0, 3);
        due("drop(0) without changes", x.drop(0), 0);
        lineIs(x, 3, 0, 4, -1, -1, -1, -1, 0);
        dishIs(x, 0, 2, 2, 0, 0, 3);
        dishIs(x, 1, 0, 2, 1, 1, 2);
        due("count(0)", x.count(0), 4);
    }

    private static void undoingOfOneAlone() {
        says("Terms, Undoing a dish", "its lines of kind 1 that no line of kind 3 takes back are taken back");
        ChalkSlate x = new ChalkSlate();
        x.begin();
        x.cook(0, 4, 999);
        due("drop(0) with one change", x.drop(0), 1);
        lineIs(x, 2, 0, 3, 4, 999, 0, 1, 0);
        lineIs(x, 3, 0, 4, -1, -1, -1, -1, 0);
        due("count(0)", x.count(0), 4);
        ChalkSlate y = Kitchens.withRoom(0);
        due("drop(0) with as many changes as there is room for", y.drop(0), 59);
        for (int line = 60; line < 119; line++) {
            due("line(" + line + ", 5)", y.line(line, 5), 119 - line);
        }
        due("line(119, 1)", y.line(119, 1), 4);
    }

    private static void undoingTheRest() {
        says("Terms, Undoing a dish", "its lines of kind 1 that no line of kind 3 takes back are taken back");
        ChalkSlate x = new ChalkSlate();
        x.begin();
        for (int pot = 0; pot < 3; pot++) {
            x.cook(0, pot, 10 + pot);
        }
        x.drop(0);
        // 4 takes 3 back (pot 2), 5 takes 2 back (pot 1), 6 takes 1 back (pot 0), 7 dropped.
        x.shelve(1);
        x.fall();
        lineIs(x, 4, 0, 3, 2, 12, 0, 3, 1);
        lineIs(x, 5, 0, 3, 1, 11, 0, 2, 1);
        lineIs(x, 6, 0, 3, 0, 10, 0, 1, 0);
        lineIs(x, 7, 0, 4, -1, -1, -1, -1, 0);
        counts(x, 8, 6, 1, 0, 0, 1, 0, 112, 0, 0, 1);
        x.blow();
        due("fall() with all taken back, pot 1 told upon the shelf", x.fall(), 4);
        due("count(0) is as it was", x.count(0), 8);
    }

    // ---- room

    private static void roomForBegun() {
        says("Terms, Room", "A line of kind 0 or 1 can be chalked just if behind it there is room left");
        ChalkSlate three = Kitchens.withRoom(3);
        due("count(7)", three.count(7), 3);
        due("begin() with room 3", three.begin(), 2);
        due("count(7)", three.count(7), 1);
        refused(three, STATE, "begin() with room 1", () -> three.begin());
        ChalkSlate two = Kitchens.withRoom(2);
        due("begin() with room 2", two.begin(), 1);
        due("count(7)", two.count(7), 0);
        refused(two, STATE, "begin() with room 0", () -> two.begin());
        ChalkSlate last = Kitchens.withTwoLinesLeft();
        due("count(7)", last.count(7), 2);
        due("begin() as line 118", last.begin(), 1);
        due("count(7)", last.count(7), 0);
        due("finish(1) as line 119", last.finish(1), 120);
        ChalkSlate one = new ChalkSlate();
        one.begin();
        Kitchens.cookTimes(one, 0, 57);
        one.drop(0);
        one.begin();
        one.cook(1, 1, 1);
        one.finish(1);
        counts(one, 119, 119, 2, 0, 1, 1, 0, 1, 1, 0, 0);
        refused(one, STATE, "begin() with one line left", () -> one.begin());
    }

    private static void roomForAChange() {
        says("Terms, Room", "A line of kind 0 or 1 can be chalked just if behind it there is room left");
        ChalkSlate three = Kitchens.withRoom(3);
        due("cook with room 3", three.cook(1, 7, 5), 0);
        due("count(7)", three.count(7), 1);
        refused(three, STATE, "cook with room 1", () -> three.cook(1, 7, 5));
        ChalkSlate two = Kitchens.withRoom(2);
        due("cook with room 2", two.cook(0, 7, 5), 0);
        due("count(7)", two.count(7), 0);
        refused(two, STATE, "cook with room 0", () -> two.cook(0, 7, 5));
        refused(two, STATE, "cook with room 0, of no other spoons", () -> two.cook(0, 0, 58));
        ChalkSlate last = new ChalkSlate();
        last.begin();
        Kitchens.cookTimes(last, 0, 57);
        last.drop(0);
        last.begin();
        due("cook as line 117", last.cook(1, 0, 5), 0);
        refused(last, STATE, "cook as line 118", () -> last.cook(1, 0, 6));
        due("drop(1)", last.drop(1), 1);
        lineIs(last, 118, 1, 3, 0, 5, 0, 117, 0);
        lineIs(last, 119, 1, 4, -1, -1, -1, -1, 0);
    }

    private static void roomForNoOtherKinds() {
        says("Terms, Room", "A line of kind 0 or 1 can be chalked just if behind it there is room left");
        for (int room = 0; room < 3; room++) {
            int dish = room % 2;
            ChalkSlate finished = Kitchens.withRoom(room);
            int lines = finished.count(0);
            due("finish with room " + room, finished.finish(dish), lines + 1 - 3 * dish);
            due("count(7) without an open dish", finished.count(7), 119 - lines);
            ChalkSlate dropped = Kitchens.withRoom(room);
            int changes = dropped.dish(dish, 2);
            due("drop with room " + room, dropped.drop(dish), changes);
            due("count(7) is as it was", dropped.count(7), room);
            due("count(0)", dropped.count(0), 120 - room);
        }
    }

    private static void roomOfOpenDishesAlone() {
        says("Terms, Room", "120, less all lines, less for each open dish 1 and its lines of kind 1 that are not taken"
                + " back; that is 0 or more then.");
        ChalkSlate x = new ChalkSlate();
        due("count(7) of an empty slate", x.count(7), 120);
        x.begin();
        due("count(7) with an open dish", x.count(7), 118);
        x.begin();
        due("count(7) with two", x.count(7), 116);
        x.cook(0, 0, 1);
        x.cook(0, 0, 2);
        x.cook(1, 1, 3);
        due("count(7) with three changes", x.count(7), 110);
        x.drop(0);
        due("count(7) as drop leaves it", x.count(7), 110);
        x.finish(1);
        due("count(7) without an open dish", x.count(7), 111);
        for (int dish = 2; dish < 20; dish++) {
            x.begin();
        }
        due("count(7) with 18 open dishes", x.count(7), 75);
        for (int pot = 0; pot < 8; pot++) {
            x.cook(2 + pot, pot, 9);
        }
        due("count(7) with eight changes of as many dishes", x.count(7), 59);
    }

    private static void roomOfForgottenDishes() {
        says("Terms, Room", "120, less all lines, less for each open dish 1 and its lines of kind 1 that are not taken"
                + " back; that is 0 or more then.");
        ChalkSlate x = Kitchens.withRoom(0);
        x.fall();
        due("count(7) of an empty slate", x.count(7), 120);
        x.begin();
        Kitchens.cookTimes(x, 1, 59);
        due("count(7)", x.count(7), 0);
        refused(x, STATE, "cook with room 0", () -> x.cook(1, 0, 1));
        x.blow();
        due("fall() with room 0", x.fall(), 59);
        due("count(0) when the undoing has filled the slate", x.count(0), 120);
        due("count(7)", x.count(7), 0);
    }

    // ---- the fall

    private static void wipingAllAndNothing() {
        says("Terms, If the stove falls over", "All lines that are not dry are wiped away.");
        ChalkSlate empty = new ChalkSlate();
        due("fall() upon an empty slate", empty.fall(), 0);
        counts(empty, 0, 0, 0, 0, 0, 0, 0, 120, 0, 0, 1);
        ChalkSlate none = Kitchens.fullByDrop();
        due("would(0) with no line dry", none.would(0), 120);
        due("fall() with no line dry", none.fall(), 0);
        counts(none, 0, 0, 1, 0, 0, 0, 1, 120, 0, 0, 1);
        refused(none, INDEX, "line(0, 0)", () -> none.line(0, 0));
        ChalkSlate all = Kitchens.fullByFinish();
        due("would(0) with all lines dry", all.would(0), 0);
        due("fall() with all lines dry", all.fall(), 116);
        counts(all, 120, 120, 2, 0, 1, 1, 0, 0, 0, 0, 1);
        lineIs(all, 119, 1, 2, -1, -1, -1, -1, 1);
    }

    private static void wipingAtTheEdge() {
        says("Terms, If the stove falls over", "All lines that are not dry are wiped away.");
        ChalkSlate x = new ChalkSlate();
        x.begin();
        x.cook(0, 0, 1);
        x.finish(0);
        x.begin();
        x.fall();
        due("count(0) when one line alone is wiped away", x.count(0), 3);
        lineIs(x, 2, 0, 2, -1, -1, -1, -1, 1);
        refused(x, INDEX, "line(3, 0)", () -> x.line(3, 0));
        x.begin();
        lineIs(x, 3, 2, 0, -1, -1, -1, -1, 0);
        x.cook(2, 1, 5);
        lineIs(x, 4, 2, 1, 1, 0, 5, -1, 0);
    }

    private static void dishesAsTheirLinesTell() {
        says("Terms, If the stove falls over", "Each dish is as its lines tell then: forgotten without one of kind 0,"
                + " finished with one of kind 2, dropped with one of kind 4, otherwise open.");
        ChalkSlate x = new ChalkSlate();
        x.begin();
        x.finish(0);
        x.begin();
        x.drop(1);
        x.begin();
        x.cook(2, 0, 1);
        x.begin();
        x.blow();
        x.begin();
        x.drop(3);
        woulds(x, 2, 1, 1, 5, 1);
        x.fall();
        // 2 and 3 were open, so they are undone: 3 by line 7, 2 by lines 8 and 9.
        dishIs(x, 0, 1, 2, 0, 0, 1);
        dishIs(x, 1, 2, 2, 0, 0, 3);
        dishIs(x, 2, 2, 4, 0, 0, 9);
        dishIs(x, 3, 2, 2, 0, 0, 7);
        dishIs(x, 4, 3, 0, 0, 0, -1);
        counts(x, 10, 7, 5, 0, 1, 3, 1, 110, 0, 0, 1);
    }

    private static void droppedDishAsItsLinesTell() {
        says("Terms, If the stove falls over", "Each dish is as its lines tell then: forgotten without one of kind 0,"
                + " finished with one of kind 2, dropped with one of kind 4, otherwise open.");
        ChalkSlate x = new ChalkSlate();
        x.begin();
        x.blow();
        x.drop(0);
        x.begin();
        x.drop(1);
        due("would(4) of a dish that is dropped now", x.would(4), 1);
        x.fall();
        dishIs(x, 0, 2, 2, 0, 0, 1);
        dishIs(x, 1, 3, 0, 0, 0, -1);
        lineIs(x, 1, 0, 4, -1, -1, -1, -1, 0);
        x.blow();
        x.fall();
        dishIs(x, 0, 2, 2, 0, 0, 1);
        counts(x, 2, 2, 2, 0, 0, 1, 1, 118, 0, 0, 2);
    }

    private static void stoveFromTheShelf() {
        says("Terms, If the stove falls over", "Each pot has the spoons on the stove that are on the shelf.");
        ChalkSlate x = new ChalkSlate();
        x.begin();
        x.cook(0, 0, 999);
        x.cook(0, 7, 999);
        x.cook(0, 1, 5);
        x.finish(0);
        for (int pot = 0; pot < 8; pot++) {
            x.shelve(pot);
        }
        x.begin();
        x.cook(1, 0, 0);
        x.cook(1, 7, 1);
        x.cook(1, 2, 7);
        lefts(x, 999, 5, 0, 0, 0, 0, 0, 999);
        due("fall() with all pots upon the shelf", x.fall(), 0);
        potIs(x, 0, 999, 999, 1, -1, 1);
        potIs(x, 1, 5, 5, 3, -1, 3);
        potIs(x, 2, 0, 0, -1, -1, -1);
        potIs(x, 7, 999, 999, 2, -1, 2);
    }

    private static void doneAnewBehindTheStamp() {
        says("Terms, If the stove falls over", "Line by line, each of kind 1 or 3 whose number is greater than the"
                + " stamp of its pot is done anew: the spoons behind it are on the stove.");
        ChalkSlate x = new ChalkSlate();
        x.begin();
        x.cook(0, 0, 10);
        x.cook(0, 1, 20);
        x.shelve(0);
        x.shelve(1);
        x.finish(0);
        woulds(x, 0, 0, 0, -1, 0);
        due("fall() with the last lines of all pots told upon the shelf", x.fall(), 0);
        x.begin();
        x.cook(1, 0, 11);
        x.cook(1, 0, 12);
        x.cook(1, 2, 30);
        x.finish(1);
        woulds(x, 0, 3, 0, 5, 0);
        lefts(x, 12, 20, 30, 0, 0, 0, 0, 0);
        due("fall() with lines behind the stamps", x.fall(), 3);
        potIs(x, 0, 12, 10, 1, -1, 6);
        potIs(x, 1, 20, 20, 2, -1, 2);
        potIs(x, 2, 30, 0, -1, -1, 7);
        x.shelve(0);
        due("fall() with one pot less", x.fall(), 1);
        due("pot(0, 0)", x.pot(0, 0), 12);
        due("pot(2, 0)", x.pot(2, 0), 30);
    }

    private static void doneAnewUndoings() {
        says("Terms, If the stove falls over", "Line by line, each of kind 1 or 3 whose number is greater than the"
                + " stamp of its pot is done anew: the spoons behind it are on the stove.");
        ChalkSlate x = new ChalkSlate();
        x.begin();
        x.cook(0, 0, 10);
        x.shelve(0);
        x.drop(0);
        x.blow();
        woulds(x, 0, 1, 0, 2, 0);
        due("left(0)", x.left(0), 0);
        due("fall() with an undoing behind the stamp", x.fall(), 1);
        potIs(x, 0, 0, 10, 1, -1, 2);
        x.shelve(0);
        woulds(x, 0, 0, 0, -1, 0);
        due("fall() with the undoing told upon the shelf", x.fall(), 0);
        potIs(x, 0, 0, 0, 2, -1, 2);
        ChalkSlate full = Kitchens.fullByDrop();
        full.blow();
        woulds(full, 0, 118, 0, 1, 0);
        due("fall() with as many as there can be", full.fall(), 118);
    }

    private static void undoneByAFall() {
        says("Terms, If the stove falls over", "All open dishes are undone, the one with the greatest number first; the"
                + " lines of this are not dry.");
        ChalkSlate x = new ChalkSlate();
        x.begin();
        x.begin();
        x.cook(0, 0, 5);
        x.cook(1, 1, 6);
        x.cook(0, 2, 7);
        x.blow();
        due("would(2)", x.would(2), 3);
        due("fall()", x.fall(), 3);
        lineIs(x, 5, 1, 3, 1, 6, 0, 3, 0);
        lineIs(x, 6, 1, 4, -1, -1, -1, -1, 0);
        lineIs(x, 7, 0, 3, 2, 7, 0, 4, 0);
        lineIs(x, 8, 0, 3, 0, 5, 0, 2, 0);
        lineIs(x, 9, 0, 4, -1, -1, -1, -1, 0);
        counts(x, 10, 5, 2, 0, 0, 2, 0, 110, 0, 0, 1);
        woulds(x, 5, 3, 3, 2, 0);
        due("fall() again", x.fall(), 3);
        counts(x, 10, 5, 2, 0, 0, 2, 0, 110, 0, 0, 2);
    }

    private static void undoneByAFallTwenty() {
        says("Terms, If the stove falls over", "All open dishes are undone, the one with the greatest number first; the"
                + " lines of this are not dry.");
        ChalkSlate x = new ChalkSlate();
        for (int dish = 0; dish < 20; dish++) {
            x.begin();
        }
        x.blow();
        due("fall() with 20 open dishes", x.fall(), 0);
        for (int line = 20; line < 40; line++) {
            lineIs(x, line, 39 - line, 4, -1, -1, -1, -1, 0);
        }
        counts(x, 40, 20, 20, 0, 0, 20, 0, 80, 0, 0, 1);
    }

    private static void undoneByAFallNone() {
        says("Terms, If the stove falls over", "All open dishes are undone, the one with the greatest number first; the"
                + " lines of this are not dry.");
        ChalkSlate x = new ChalkSlate();
        x.begin();
        x.finish(0);
        x.begin();
        x.drop(1);
        x.blow();
        x.begin();
        x.fall();
        due("count(0) without an open dish", x.count(0), 4);
        due("count(1) without an open dish", x.count(1), 4);
        due("would(2) without an open dish", x.would(2), 0);
    }

    private static void undoneByAFallPartly() {
        says("Terms, If the stove falls over", "All open dishes are undone, the one with the greatest number first; the"
                + " lines of this are not dry.");
        ChalkSlate x = new ChalkSlate();
        x.begin();
        x.begin();
        x.cook(0, 0, 10);
        x.cook(1, 2, 30);
        x.cook(0, 1, 20);
        x.drop(0);
        // 5 takes 4 back (pot 1), 6 takes 2 back (pot 0), 7 dropped; dry are 0 to 5.
        x.shelve(1);
        woulds(x, 2, 2, 2, 2, 0);
        lefts(x, 0, 0, 0, 0, 0, 0, 0, 0);
        due("fall()", x.fall(), 2);
        lineIs(x, 6, 1, 3, 2, 30, 0, 3, 0);
        lineIs(x, 7, 1, 4, -1, -1, -1, -1, 0);
        lineIs(x, 8, 0, 3, 0, 10, 0, 2, 0);
        lineIs(x, 9, 0, 4, -1, -1, -1, -1, 0);
        counts(x, 10, 6, 2, 0, 0, 2, 0, 110, 0, 0, 1);
    }

    // ---- exceptions

    private static void refusedCallsChangeNothing() {
        says("Terms", "A method that throws an exception changes nothing.");
        ChalkSlate asked = Kitchens.dishesOfAllKinds();
        ChalkSlate twin = Kitchens.dishesOfAllKinds();
        askWrongly(asked);
        asked.cook(Kitchens.OPEN_DISH, 0, 5);
        twin.cook(Kitchens.OPEN_DISH, 0, 5);
        askWrongly(asked);
        asked.blow();
        twin.blow();
        askWrongly(asked);
        asked.fall();
        twin.fall();
        askWrongly(asked);
        due("begin() as if nothing had been refused", asked.begin(), twin.begin());
        due("digest() as if nothing had been refused", asked.digest(), twin.digest());
        for (int what = 0; what < 5; what++) {
            due("would(" + what + ")", asked.would(what), twin.would(what));
        }
        for (int pot = 0; pot < 8; pot++) {
            due("left(" + pot + ")", asked.left(pot), twin.left(pot));
        }
    }

    private static void askWrongly(ChalkSlate x) {
        refused(x, INDEX, "cook of no dish", () -> x.cook(x.count(2), 0, 5));
        refused(x, INDEX, "cook of no pot", () -> x.cook(Kitchens.OPEN_DISH, 8, 5));
        refused(x, ARGUMENT, "cook of no spoons", () -> x.cook(Kitchens.OPEN_DISH, 0, 1000));
        refused(x, STATE, "cook of a dish that is not open", () -> x.cook(Kitchens.FINISHED_DISH, 0, 5));
        refused(x, INDEX, "finish of no dish", () -> x.finish(-1));
        refused(x, STATE, "finish of a dish that is not open", () -> x.finish(Kitchens.DROPPED_DISH));
        refused(x, INDEX, "drop of no dish", () -> x.drop(x.count(2)));
        refused(x, STATE, "drop of a dish that is not open", () -> x.drop(Kitchens.FORGOTTEN_DISH));
        refused(x, INDEX, "shelve of no pot", () -> x.shelve(8));
        refused(x, INDEX, "pot of no pot", () -> x.pot(-1, 0));
        refused(x, INDEX, "dish of no dish", () -> x.dish(-1, 0));
        refused(x, INDEX, "line of no line", () -> x.line(x.count(0), 0));
        refused(x, INDEX, "count of no answer", () -> x.count(11));
        refused(x, INDEX, "would of no answer", () -> x.would(5));
        refused(x, INDEX, "left of no pot", () -> x.left(8));
    }

    private static void firstNamedException() {
        says("Terms", "If several exceptions apply, the one that is named first is thrown.");
        for (int dish = -1; dish <= Kitchens.NO_DISH; dish++) {
            for (int pot : new int[] {-1, 0, Kitchens.HELD_POT, 7, 8}) {
                for (int spoons : new int[] {-1, 0, 999, 1000}) {
                    cookAnswers(Kitchens::dishesOfAllKinds, true, dish, pot, spoons);
                    cookAnswers(Kitchens::dishesOfAllKindsWithoutRoom, false, dish, pot, spoons);
                }
            }
        }
    }

    private static void cookAnswers(Supplier<ChalkSlate> kitchen, boolean hasRoom, int dish, int pot, int spoons) {
        ChalkSlate x = kitchen.get();
        String name = "cook(" + dish + ", " + pot + ", " + spoons + ")" + (hasRoom ? "" : " without room");
        boolean isOpen = dish == Kitchens.OPEN_DISH || dish == Kitchens.HOLDING_DISH;
        boolean isHeldByAnother = pot == Kitchens.HELD_POT && dish != Kitchens.HOLDING_DISH;
        if (dish < 0 || dish >= Kitchens.NO_DISH || pot < 0 || pot > 7) {
            refused(x, INDEX, name, () -> x.cook(dish, pot, spoons));
        } else if (spoons < 0 || spoons > 999) {
            refused(x, ARGUMENT, name, () -> x.cook(dish, pot, spoons));
        } else if (!isOpen || isHeldByAnother || !hasRoom) {
            refused(x, STATE, name, () -> x.cook(dish, pot, spoons));
        } else {
            due(name, x.cook(dish, pot, spoons), pot == Kitchens.HELD_POT ? 60 : 0);
            due(name + ": pot(" + pot + ", 0)", x.pot(pot, 0), spoons);
        }
    }

    private static void firstNamedExceptionOfAll() {
        says("Terms", "If several exceptions apply, the one that is named first is thrown.");
        ChalkSlate x = Kitchens.fullOfDishes();
        refused(x, STATE, "begin() with 20 dishes and no room", () -> x.begin());
        for (int bad : beyond(20)) {
            refused(x, INDEX, "cook(" + bad + ", 8, 1000) without room", () -> x.cook(bad, 8, 1000));
            refused(x, INDEX, "cook(0, " + bad + ", -1) of a dropped dish, without room",
                    () -> x.cook(0, bad, -1));
        }
        for (int bad : NO_SPOONS) {
            refused(x, ARGUMENT, "cook(19, 0, " + bad + ") of a finished dish, without room",
                    () -> x.cook(19, 0, bad));
        }
        for (int dish = 0; dish < 20; dish++) {
            int ended = dish;
            refused(x, STATE, "cook(" + dish + ", 7, 999) of an ended dish, without room",
                    () -> x.cook(ended, 7, 999));
        }
    }
}
