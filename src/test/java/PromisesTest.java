/** For each promise of the document: ordinary inputs, its edges, and wrong inputs. */
public final class PromisesTest extends Checks {
    private static final int[] WRONG_POTS = {-1, 8, Integer.MIN_VALUE, Integer.MAX_VALUE};

    public static void main(String[] args) {
        newObject();
        begin();
        beginWithoutRoom();
        cook();
        cookWrongly();
        cookWithoutRoom();
        finish();
        drop();
        dropHasRoom();
        shelve();
        shelveWithinAnUndoing();
        blow();
        fall();
        fallReopensDishes();
        fallOrder();
        fallKeepsFinished();
        fallRoom();
        pot();
        dish();
        line();
        count();
        would();
        wouldAfterPartOfAnUndoing();
        left();
        leftFromTheShelf();
        mean();
        digest();
        endWith("all promises hold");
    }

    // ---- promise 1

    private static void newObject() {
        says("Promise 1", "a new object");
        ChalkSlate x = new ChalkSlate();
        counts(x, 0, 0, 0, 0, 0, 0, 0, 120, 0, 0, 0);
        for (int pot = 0; pot < 8; pot++) {
            potIs(x, pot, 0, 0, -1, -1, -1);
            due("left(" + pot + ")", x.left(pot), 0);
        }
        woulds(x, 0, 0, 0, -1, 0);
        dueDouble("mean()", x.mean(), 0.0);
        new ChalkSlate().begin();
        due("a second object changes nothing", x.count(2), 0);
    }

    // ---- promise 2

    private static void begin() {
        says("Promise 2", "begin");
        ChalkSlate x = new ChalkSlate();
        for (int dish = 0; dish < 20; dish++) {
            due("begin()", x.begin(), dish);
            lineIs(x, dish, dish, 0, -1, -1, -1, -1, 0);
            dishIs(x, dish, 0, 1, 0, 0, dish);
        }
        counts(x, 20, 0, 20, 20, 0, 0, 0, 80, 0, 0, 0);
        refused(x, STATE, "begin() after 20", () -> x.begin());
        x.fall();
        due("count(6)", x.count(6), 20);
        refused(x, STATE, "begin() after 20 forgotten", () -> x.begin());
    }

    private static void beginWithoutRoom() {
        says("Promise 2", "begin");
        ChalkSlate x = new ChalkSlate();
        x.begin();
        Kitchens.cookTimes(x, 0, 58);
        due("count(7)", x.count(7), 2);
        due("begin() with room 2", x.begin(), 1);
        due("count(7)", x.count(7), 0);
        refused(x, STATE, "begin() with room 0", () -> x.begin());
        x.finish(1);
        due("count(7) is left as it was by finish", x.count(7), 0);

        ChalkSlate y = new ChalkSlate();
        y.begin();
        y.finish(0);
        y.begin();
        Kitchens.cookTimes(y, 1, 57);
        due("count(7)", y.count(7), 2);
        y.cook(1, 0, 5);
        due("count(7)", y.count(7), 0);
        refused(y, STATE, "begin() with room 0", () -> y.begin());
    }

    // ---- promise 3

    private static void cook() {
        says("Promise 3", "cook");
        ChalkSlate x = new ChalkSlate();
        x.begin();
        x.begin();
        due("cook(0, 7, 999)", x.cook(0, 7, 999), 0);
        due("cook(0, 7, 0)", x.cook(0, 7, 0), 999);
        due("cook(0, 7, 4)", x.cook(0, 7, 4), 0);
        due("cook(0, 7, 4) again", x.cook(0, 7, 4), 4);
        due("cook(1, 0, 3)", x.cook(1, 0, 3), 0);
        lineIs(x, 2, 0, 1, 7, 0, 999, -1, 0);
        lineIs(x, 3, 0, 1, 7, 999, 0, -1, 0);
        lineIs(x, 5, 0, 1, 7, 4, 4, -1, 0);
        lineIs(x, 6, 1, 1, 0, 0, 3, -1, 0);
        potIs(x, 7, 4, 0, -1, 0, 5);
        potIs(x, 0, 3, 0, -1, 1, 6);
        counts(x, 7, 0, 2, 2, 0, 0, 0, 106, 7, 0, 0);
    }

    private static void cookWrongly() {
        says("Promise 3", "cook");
        ChalkSlate x = new ChalkSlate();
        refused(x, INDEX, "cook(0, 0, 0) without dishes", () -> x.cook(0, 0, 0));
        x.begin();
        x.begin();
        x.cook(0, 3, 10);
        x.begin();
        x.finish(2);
        for (int bad : WRONG_POTS) {
            refused(x, INDEX, "cook(0, " + bad + ", 0)", () -> x.cook(0, bad, 0));
            refused(x, INDEX, "cook(2, " + bad + ", -1)", () -> x.cook(2, bad, -1));
        }
        for (int bad : new int[] {-1, 3, 20, Integer.MIN_VALUE, Integer.MAX_VALUE}) {
            refused(x, INDEX, "cook(" + bad + ", 0, 1000)", () -> x.cook(bad, 0, 1000));
        }
        for (int bad : new int[] {-1, 1000, Integer.MIN_VALUE, Integer.MAX_VALUE}) {
            refused(x, ARGUMENT, "cook(0, 0, " + bad + ")", () -> x.cook(0, 0, bad));
            refused(x, ARGUMENT, "cook(1, 3, " + bad + ") of a held pot", () -> x.cook(1, 3, bad));
            refused(x, ARGUMENT, "cook(2, 0, " + bad + ") of a finished dish", () -> x.cook(2, 0, bad));
        }
        refused(x, STATE, "cook(1, 3, 5) of a held pot", () -> x.cook(1, 3, 5));
        refused(x, STATE, "cook(2, 0, 5) of a finished dish", () -> x.cook(2, 0, 5));
        x.drop(0);
        refused(x, STATE, "cook(0, 3, 5) of a dropped dish", () -> x.cook(0, 3, 5));
        due("cook(1, 3, 5) of a pot that is free again", x.cook(1, 3, 5), 0);
        x.begin();
        x.fall();
        refused(x, STATE, "cook(3, 0, 5) of a forgotten dish", () -> x.cook(3, 0, 5));
    }

    private static void cookWithoutRoom() {
        says("Promise 3", "cook");
        ChalkSlate x = new ChalkSlate();
        x.begin();
        Kitchens.cookTimes(x, 0, 59);
        due("count(0)", x.count(0), 60);
        due("count(7)", x.count(7), 0);
        refused(x, STATE, "cook with room 0", () -> x.cook(0, 0, 1));
        due("drop(0)", x.drop(0), 59);
        due("count(0) when the slate is full", x.count(0), 120);
        due("count(7) when the slate is full", x.count(7), 0);
        refused(x, STATE, "begin() when the slate is full", () -> x.begin());

        ChalkSlate y = new ChalkSlate();
        y.begin();
        y.finish(0);
        for (int dish = 1; dish < 4; dish++) {
            y.begin();
            Kitchens.cookTimes(y, dish, 28);
            y.finish(dish);
        }
        y.begin();
        y.cook(4, 0, 1);
        y.finish(4);
        y.begin();
        Kitchens.cookTimes(y, 5, 11);
        due("count(7)", y.count(7), 1);
        refused(y, STATE, "cook with room 1", () -> y.cook(5, 0, 1));
        refused(y, STATE, "begin with room 1", () -> y.begin());
        due("finish(5)", y.finish(5), 13);
        due("count(7)", y.count(7), 12);
    }

    // ---- promise 4

    private static void finish() {
        says("Promise 4", "finish");
        ChalkSlate x = new ChalkSlate();
        refused(x, INDEX, "finish(0) without dishes", () -> x.finish(0));
        x.begin();
        x.begin();
        x.cook(0, 2, 20);
        x.cook(1, 4, 40);
        due("finish(0)", x.finish(0), 5);
        lineIs(x, 4, 0, 2, -1, -1, -1, -1, 1);
        lineIs(x, 3, 1, 1, 4, 0, 40, -1, 1);
        dishIs(x, 0, 1, 3, 1, 0, 4);
        potIs(x, 2, 20, 0, -1, -1, 2);
        counts(x, 5, 5, 2, 1, 1, 0, 0, 113, 60, 0, 0);
        due("finish(1) with all else dry", x.finish(1), 1);
        refused(x, STATE, "finish(0) again", () -> x.finish(0));
        x.begin();
        x.drop(2);
        refused(x, STATE, "finish(2) of a dropped dish", () -> x.finish(2));
        x.begin();
        x.fall();
        refused(x, STATE, "finish(3) of a forgotten dish", () -> x.finish(3));
        for (int bad : new int[] {-1, 4, 20, Integer.MIN_VALUE, Integer.MAX_VALUE}) {
            refused(x, INDEX, "finish(" + bad + ")", () -> x.finish(bad));
        }
    }

    // ---- promise 5

    private static void drop() {
        says("Promise 5", "drop");
        ChalkSlate x = new ChalkSlate();
        refused(x, INDEX, "drop(0) without dishes", () -> x.drop(0));
        x.begin();
        x.cook(0, 1, 11);
        x.cook(0, 2, 22);
        x.cook(0, 1, 111);
        x.blow();
        due("drop(0)", x.drop(0), 3);
        lineIs(x, 4, 0, 3, 1, 111, 11, 3, 0);
        lineIs(x, 5, 0, 3, 2, 22, 0, 2, 0);
        lineIs(x, 6, 0, 3, 1, 11, 0, 1, 0);
        lineIs(x, 7, 0, 4, -1, -1, -1, -1, 0);
        dishIs(x, 0, 2, 8, 0, 0, 7);
        potIs(x, 1, 0, 0, -1, -1, 6);
        counts(x, 8, 4, 1, 0, 0, 1, 0, 112, 0, 0, 0);
        x.begin();
        due("drop(1) without changes", x.drop(1), 0);
        lineIs(x, 9, 1, 4, -1, -1, -1, -1, 0);
        refused(x, STATE, "drop(0) again", () -> x.drop(0));
        x.begin();
        x.finish(2);
        refused(x, STATE, "drop(2) of a finished dish", () -> x.drop(2));
        x.begin();
        x.fall();
        refused(x, STATE, "drop(3) of a forgotten dish", () -> x.drop(3));
        for (int bad : new int[] {-1, 4, 20, Integer.MIN_VALUE, Integer.MAX_VALUE}) {
            refused(x, INDEX, "drop(" + bad + ")", () -> x.drop(bad));
        }
    }

    private static void dropHasRoom() {
        says("Promise 5", "drop");
        ChalkSlate x = new ChalkSlate();
        x.begin();
        x.begin();
        Kitchens.cookTimes(x, 1, 29);
        for (int i = 0; i < 29; i++) {
            x.cook(0, 1, 100 + i);
        }
        due("count(7)", x.count(7), 0);
        due("drop(0)", x.drop(0), 29);
        due("count(7)", x.count(7), 0);
        due("drop(1)", x.drop(1), 29);
        due("count(0)", x.count(0), 120);
        due("count(8)", x.count(8), 0);
    }

    // ---- promise 6

    private static void shelve() {
        says("Promise 6", "shelve");
        ChalkSlate x = new ChalkSlate();
        for (int bad : WRONG_POTS) {
            refused(x, INDEX, "shelve(" + bad + ")", () -> x.shelve(bad));
        }
        x.begin();
        x.cook(0, 0, 5);
        x.cook(0, 7, 6);
        x.cook(0, 3, 7);
        due("shelve(1) without a line", x.shelve(1), 0);
        potIs(x, 1, 0, 0, -1, -1, -1);
        due("shelve(7)", x.shelve(7), 3);
        potIs(x, 7, 6, 6, 2, 0, 2);
        due("count(1)", x.count(1), 3);
        due("line(3, 6)", x.line(3, 6), 0);
        due("shelve(0) behind dry chalk", x.shelve(0), 0);
        potIs(x, 0, 5, 5, 1, 0, 1);
        due("count(1)", x.count(1), 3);
        due("shelve(7) again", x.shelve(7), 0);
        x.cook(0, 7, 9);
        potIs(x, 7, 9, 6, 2, 0, 4);
        due("shelve(7) with new spoons", x.shelve(7), 2);
        potIs(x, 7, 9, 9, 4, 0, 4);
        counts(x, 5, 5, 1, 1, 0, 0, 0, 110, 21, 14, 0);
    }

    private static void shelveWithinAnUndoing() {
        says("Promise 6", "shelve");
        ChalkSlate x = new ChalkSlate();
        x.begin();
        x.cook(0, 0, 5);
        x.cook(0, 1, 6);
        x.cook(0, 0, 7);
        x.drop(0);
        // The slate: 4 takes 3 back (pot 0), 5 takes 2 back (pot 1), 6 takes 1 back (pot 0), 7 dropped.
        due("shelve(1)", x.shelve(1), 6);
        potIs(x, 1, 0, 0, 5, -1, 5);
        woulds(x, 2, 3, 1, 1, 0);
        due("left(0)", x.left(0), 0);
        due("fall()", x.fall(), 3);
        lineIs(x, 6, 0, 3, 0, 5, 0, 1, 0);
        lineIs(x, 7, 0, 4, -1, -1, -1, -1, 0);
        dishIs(x, 0, 2, 8, 0, 0, 7);
        counts(x, 8, 6, 1, 0, 0, 1, 0, 112, 0, 0, 1);
    }

    // ---- promise 7

    private static void blow() {
        says("Promise 7", "blow");
        ChalkSlate x = new ChalkSlate();
        due("blow() upon an empty slate", x.blow(), 0);
        x.begin();
        x.cook(0, 0, 5);
        x.shelve(0);
        x.cook(0, 1, 5);
        x.begin();
        due("blow()", x.blow(), 2);
        due("blow() again", x.blow(), 0);
        due("count(1)", x.count(1), 4);
        due("line(3, 6)", x.line(3, 6), 1);
        x.drop(0);
        due("blow() upon an undoing", x.blow(), 3);
        potIs(x, 0, 0, 5, 1, -1, 5);
    }

    // ---- promise 8

    private static void fall() {
        says("Promise 8", "fall");
        ChalkSlate x = new ChalkSlate();
        due("fall() of an empty stove", x.fall(), 0);
        due("count(10)", x.count(10), 1);
        x.begin();
        x.cook(0, 0, 5);
        x.cook(0, 1, 6);
        x.shelve(1);
        x.begin();
        x.cook(1, 2, 7);
        due("fall()", x.fall(), 1);
        // Wiped are 3 and 4; done anew is 1 alone; dish 0 is undone, dish 1 forgotten.
        dishIs(x, 0, 2, 6, 0, 0, 5);
        dishIs(x, 1, 3, 0, 0, 0, -1);
        lineIs(x, 3, 0, 3, 1, 6, 0, 2, 0);
        lineIs(x, 4, 0, 3, 0, 5, 0, 1, 0);
        lineIs(x, 5, 0, 4, -1, -1, -1, -1, 0);
        potIs(x, 0, 0, 0, -1, -1, 4);
        potIs(x, 1, 0, 6, 2, -1, 3);
        potIs(x, 2, 0, 0, -1, -1, -1);
        counts(x, 6, 3, 2, 0, 0, 1, 1, 114, 0, 6, 2);
        due("begin() after a forgotten dish", x.begin(), 2);
    }

    private static void fallReopensDishes() {
        says("Promise 8", "fall");
        ChalkSlate x = new ChalkSlate();
        x.begin();
        x.cook(0, 4, 44);
        x.blow();
        x.drop(0);
        x.begin();
        x.cook(1, 4, 45);
        due("fall()", x.fall(), 1);
        lineIs(x, 2, 0, 3, 4, 44, 0, 1, 0);
        lineIs(x, 3, 0, 4, -1, -1, -1, -1, 0);
        counts(x, 4, 2, 2, 0, 0, 1, 1, 116, 0, 0, 1);
        due("fall() again", x.fall(), 1);
        counts(x, 4, 2, 2, 0, 0, 1, 1, 116, 0, 0, 2);
        x.blow();
        due("fall() with a dry undoing", x.fall(), 2);
        counts(x, 4, 4, 2, 0, 0, 1, 1, 116, 0, 0, 3);
    }

    private static void fallOrder() {
        says("Promise 8", "fall");
        ChalkSlate x = new ChalkSlate();
        x.begin();
        x.begin();
        x.begin();
        x.cook(2, 6, 1);
        x.cook(0, 5, 2);
        x.cook(1, 4, 3);
        x.blow();
        due("fall()", x.fall(), 3);
        lineIs(x, 6, 2, 3, 6, 1, 0, 3, 0);
        lineIs(x, 7, 2, 4, -1, -1, -1, -1, 0);
        lineIs(x, 8, 1, 3, 4, 3, 0, 5, 0);
        lineIs(x, 9, 1, 4, -1, -1, -1, -1, 0);
        lineIs(x, 10, 0, 3, 5, 2, 0, 4, 0);
        lineIs(x, 11, 0, 4, -1, -1, -1, -1, 0);
        due("count(5)", x.count(5), 3);
    }

    private static void fallKeepsFinished() {
        says("Promise 8", "fall");
        ChalkSlate x = new ChalkSlate();
        x.begin();
        x.cook(0, 0, 50);
        x.shelve(0);
        x.cook(0, 1, 51);
        x.cook(0, 0, 52);
        x.finish(0);
        x.begin();
        x.cook(1, 0, 60);
        x.shelve(0);
        // On the shelf pot 0 has 60, and its line is not done anew, but taken back to 52.
        due("left(0)", x.left(0), 52);
        due("fall()", x.fall(), 1);
        potIs(x, 0, 52, 60, 6, -1, 7);
        potIs(x, 1, 51, 0, -1, -1, 2);
        lineIs(x, 7, 1, 3, 0, 60, 52, 6, 0);
        dishIs(x, 0, 1, 5, 3, 0, 4);
        counts(x, 9, 7, 2, 0, 1, 1, 0, 111, 103, 60, 1);
    }

    private static void fallRoom() {
        says("Promise 8", "fall");
        ChalkSlate x = new ChalkSlate();
        x.begin();
        Kitchens.cookTimes(x, 0, 59);
        x.blow();
        for (int i = 1; i <= 3; i++) {
            due("fall() with room 0", x.fall(), 59);
            counts(x, 120, 60, 1, 0, 0, 1, 0, 0, 0, 0, i);
        }
    }

    // ---- promise 9

    private static void pot() {
        says("Promise 9", "pot");
        ChalkSlate x = new ChalkSlate();
        x.begin();
        x.begin();
        x.cook(1, 0, 8);
        x.shelve(0);
        x.cook(1, 0, 9);
        x.cook(1, 7, 10);
        potIs(x, 0, 9, 8, 2, 1, 3);
        potIs(x, 7, 10, 0, -1, 1, 4);
        potIs(x, 6, 0, 0, -1, -1, -1);
        for (int bad : WRONG_POTS) {
            refused(x, INDEX, "pot(" + bad + ", 0)", () -> x.pot(bad, 0));
        }
        for (int bad : new int[] {-1, 5, Integer.MIN_VALUE, Integer.MAX_VALUE}) {
            refused(x, INDEX, "pot(0, " + bad + ")", () -> x.pot(0, bad));
        }
    }

    // ---- promise 10

    private static void dish() {
        says("Promise 10", "dish");
        ChalkSlate x = new ChalkSlate();
        refused(x, INDEX, "dish(0, 0) without dishes", () -> x.dish(0, 0));
        x.begin();
        x.begin();
        x.cook(0, 1, 1);
        x.cook(0, 2, 2);
        x.cook(0, 1, 3);
        x.cook(1, 3, 4);
        dishIs(x, 0, 0, 4, 3, 2, 4);
        dishIs(x, 1, 0, 2, 1, 1, 5);
        x.finish(0);
        dishIs(x, 0, 1, 5, 3, 0, 6);
        x.drop(1);
        dishIs(x, 1, 2, 4, 0, 0, 8);
        x.begin();
        x.fall();
        dishIs(x, 2, 3, 0, 0, 0, -1);
        dishHoldsAllPots();
        for (int bad : new int[] {-1, 3, 20, Integer.MIN_VALUE, Integer.MAX_VALUE}) {
            refused(x, INDEX, "dish(" + bad + ", 0)", () -> x.dish(bad, 0));
        }
        for (int bad : new int[] {-1, 5, Integer.MIN_VALUE, Integer.MAX_VALUE}) {
            refused(x, INDEX, "dish(0, " + bad + ")", () -> x.dish(0, bad));
        }
    }

    private static void dishHoldsAllPots() {
        ChalkSlate x = new ChalkSlate();
        x.begin();
        for (int pot = 0; pot < 8; pot++) {
            x.cook(0, pot, 0);
            dishIs(x, 0, 0, pot + 2, pot + 1, pot + 1, pot + 1);
        }
    }

    // ---- promise 11

    private static void line() {
        says("Promise 11", "line");
        ChalkSlate x = new ChalkSlate();
        refused(x, INDEX, "line(0, 0) of an empty slate", () -> x.line(0, 0));
        x.begin();
        x.cook(0, 0, 12);
        x.blow();
        x.cook(0, 0, 0);
        x.drop(0);
        x.begin();
        lineIs(x, 0, 0, 0, -1, -1, -1, -1, 1);
        lineIs(x, 1, 0, 1, 0, 0, 12, -1, 1);
        lineIs(x, 2, 0, 1, 0, 12, 0, -1, 0);
        lineIs(x, 3, 0, 3, 0, 0, 12, 2, 0);
        lineIs(x, 4, 0, 3, 0, 12, 0, 1, 0);
        lineIs(x, 5, 0, 4, -1, -1, -1, -1, 0);
        lineIs(x, 6, 1, 0, -1, -1, -1, -1, 0);
        x.finish(1);
        lineIs(x, 7, 1, 2, -1, -1, -1, -1, 1);
        for (int bad : new int[] {-1, 8, 120, Integer.MIN_VALUE, Integer.MAX_VALUE}) {
            refused(x, INDEX, "line(" + bad + ", 0)", () -> x.line(bad, 0));
        }
        for (int bad : new int[] {-1, 7, Integer.MIN_VALUE, Integer.MAX_VALUE}) {
            refused(x, INDEX, "line(0, " + bad + ")", () -> x.line(0, bad));
        }
        x.begin();
        x.fall();
        refused(x, INDEX, "line(8, 0) that is wiped away", () -> x.line(8, 0));
    }

    // ---- promise 12

    private static void count() {
        says("Promise 12", "count");
        ChalkSlate x = new ChalkSlate();
        x.begin();
        x.begin();
        x.begin();
        x.cook(0, 0, 999);
        x.cook(1, 1, 998);
        x.shelve(0);
        counts(x, 5, 4, 3, 3, 0, 0, 0, 110, 1997, 999, 0);
        x.finish(0);
        x.drop(2);
        x.begin();
        counts(x, 8, 6, 4, 2, 1, 1, 0, 109, 1997, 999, 0);
        x.fall();
        // Dishes 1 and 2 are undone, dish 3 is forgotten.
        counts(x, 9, 6, 4, 0, 1, 2, 1, 111, 999, 999, 1);
        for (int bad : new int[] {-1, 11, Integer.MIN_VALUE, Integer.MAX_VALUE}) {
            refused(x, INDEX, "count(" + bad + ")", () -> x.count(bad));
        }
    }

    // ---- promise 13

    private static void would() {
        says("Promise 13", "would");
        ChalkSlate x = new ChalkSlate();
        x.begin();
        x.begin();
        woulds(x, 2, 0, 0, -1, 2);
        x.cook(0, 0, 1);
        x.cook(0, 1, 2);
        x.shelve(0);
        x.begin();
        woulds(x, 2, 0, 1, -1, 1);
        x.blow();
        woulds(x, 0, 1, 2, 3, 0);
        x.cook(1, 2, 5);
        woulds(x, 1, 1, 2, 3, 0);
        x.finish(1);
        woulds(x, 0, 2, 2, 3, 0);
        x.drop(0);
        woulds(x, 3, 2, 2, 3, 0);
        x.begin();
        long before = x.digest();
        woulds(x, 4, 2, 2, 3, 1);
        due("nothing is changed", x.digest(), before);
        x.fall();
        // Undone are dish 2 (line 7) and dish 0 (lines 8 to 10); dish 3 is forgotten already.
        woulds(x, 4, 2, 2, 3, 0);
        for (int bad : new int[] {-1, 5, Integer.MIN_VALUE, Integer.MAX_VALUE}) {
            refused(x, INDEX, "would(" + bad + ")", () -> x.would(bad));
        }
    }

    private static void wouldAfterPartOfAnUndoing() {
        says("Promise 13", "would");
        ChalkSlate x = new ChalkSlate();
        x.begin();
        x.cook(0, 0, 5);
        x.cook(0, 1, 6);
        x.drop(0);
        x.shelve(1);
        // Dry are begun, both changes and the undoing of pot 1.
        woulds(x, 2, 1, 1, 1, 0);
        x.fall();
        woulds(x, 2, 1, 1, 1, 0);
        x.blow();
        woulds(x, 0, 2, 0, 1, 0);
    }

    // ---- promise 14

    private static void left() {
        says("Promise 14", "left");
        ChalkSlate x = new ChalkSlate();
        x.begin();
        x.cook(0, 0, 10);
        x.cook(0, 1, 11);
        x.finish(0);
        x.begin();
        x.cook(1, 0, 20);
        x.cook(1, 0, 30);
        x.blow();
        x.begin();
        x.cook(2, 1, 40);
        long before = x.digest();
        due("left(0) taken back twice", x.left(0), 10);
        due("left(1) wiped away", x.left(1), 11);
        due("left(2)", x.left(2), 0);
        due("nothing is changed", x.digest(), before);
        x.shelve(1);
        due("left(1) upon the shelf, and taken back", x.left(1), 11);
        x.finish(2);
        due("left(1) finished", x.left(1), 40);
        x.drop(1);
        due("left(0) dropped", x.left(0), 10);
        x.fall();
        due("pot(0, 0)", x.pot(0, 0), 10);
        due("pot(1, 0)", x.pot(1, 0), 40);
        for (int bad : WRONG_POTS) {
            refused(x, INDEX, "left(" + bad + ")", () -> x.left(bad));
        }
    }

    private static void leftFromTheShelf() {
        says("Promise 14", "left");
        ChalkSlate x = new ChalkSlate();
        x.begin();
        x.cook(0, 5, 10);
        x.finish(0);
        x.begin();
        x.blow();
        x.cook(1, 5, 30);
        due("left(5) done anew, behind it a line that is not dry", x.left(5), 10);
        x.drop(1);
        x.shelve(5);
        x.begin();
        x.cook(2, 5, 50);
        due("left(5) as on the shelf", x.left(5), 10);
        due("pot(5, 0)", x.pot(5, 0), 50);
        x.fall();
        due("pot(5, 0) after the fall", x.pot(5, 0), 10);
    }

    // ---- promise 15

    private static void mean() {
        says("Promise 15", "mean");
        ChalkSlate x = new ChalkSlate();
        x.begin();
        x.cook(0, 0, 1);
        dueDouble("mean()", x.mean(), 0.125);
        x.cook(0, 7, 6);
        dueDouble("mean()", x.mean(), 0.875);
        for (int pot = 0; pot < 8; pot++) {
            x.cook(0, pot, 999);
        }
        dueDouble("mean()", x.mean(), 999.0);
        x.shelve(0);
        x.drop(0);
        dueDouble("mean() of the stove alone", x.mean(), 0.0);
    }

    // ---- promise 16

    private static void digest() {
        says("Promise 16", "digest");
        ChalkSlate x = new ChalkSlate();
        long d = 1291;
        int[] fresh = {0, 0, 0, 0, 0, 0, 0, 120, 0, 0, 0};
        for (int number : fresh) {
            d = d * 31 + number;
        }
        for (int pot = 0; pot < 8; pot++) {
            for (int number : new int[] {0, 0, -1, -1, -1}) {
                d = d * 31 + number;
            }
        }
        due("digest() of a new object", x.digest(), d);
        due("digest() again", x.digest(), d);
        x.begin();
        x.begin();
        x.cook(0, 3, 30);
        x.shelve(3);
        x.cook(1, 4, 40);
        x.drop(0);
        due("digest()", x.digest(), digestByAnswers(x));
        x.fall();
        due("digest() after a fall", x.digest(), digestByAnswers(x));
    }

    private static long digestByAnswers(ChalkSlate x) {
        long d = 1291;
        for (int what = 0; what <= 10; what++) {
            d = d * 31 + x.count(what);
        }
        for (int pot = 0; pot < 8; pot++) {
            for (int what = 0; what <= 4; what++) {
                d = d * 31 + x.pot(pot, what);
            }
        }
        for (int dish = 0; dish < x.count(2); dish++) {
            for (int what = 0; what <= 4; what++) {
                d = d * 31 + x.dish(dish, what);
            }
        }
        for (int line = 0; line < x.count(0); line++) {
            for (int what = 0; what <= 6; what++) {
                d = d * 31 + x.line(line, what);
            }
        }
        return d;
    }
}
