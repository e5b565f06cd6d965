/** Kitchens that more than one test begins with. */
final class Kitchens {
    /** The dishes of dishesOfAllKinds(). */
    static final int FINISHED_DISH = 0;
    static final int DROPPED_DISH = 1;
    static final int FORGOTTEN_DISH = 2;
    static final int OPEN_DISH = 3;
    static final int HOLDING_DISH = 4;
    static final int NO_DISH = 5;
    static final int HELD_POT = 6;

    private Kitchens() { }

    static void cookTimes(ChalkSlate x, int dish, int times) {
        for (int i = 0; i < times; i++) {
            x.cook(dish, 0, i + 1);
        }
    }

    /** The last dish is open and holds pot 0; count(7) is room. */
    static ChalkSlate withRoom(int room) {
        ChalkSlate x = new ChalkSlate();
        if (room % 2 == 0) {
            x.begin();
            cookTimes(x, 0, (118 - room) / 2);
        } else {
            x.begin();
            x.cook(0, 0, 1);
            x.finish(0);
            x.begin();
            cookTimes(x, 1, (115 - room) / 2);
        }
        return x;
    }

    /** 118 lines, none of them dry; no dish is open. */
    static ChalkSlate withTwoLinesLeft() {
        ChalkSlate x = new ChalkSlate();
        x.begin();
        cookTimes(x, 0, 58);
        x.drop(0);
        return x;
    }

    /** 120 lines, none of them dry: 0 begun, 1 to 59 changes of pot 0, 60 to 118 undoings, 119 dropped. */
    static ChalkSlate fullByDrop() {
        ChalkSlate x = withRoom(0);
        x.drop(0);
        return x;
    }

    /** 120 lines, all dry; the last one is of kind 2. */
    static ChalkSlate fullByFinish() {
        ChalkSlate x = withTwoLinesLeft();
        x.begin();
        x.finish(1);
        return x;
    }

    /** 120 lines, the last one alone, which a fall chalked, is not dry. */
    static ChalkSlate fullByFall() {
        ChalkSlate x = withTwoLinesLeft();
        x.begin();
        x.blow();
        x.fall();
        return x;
    }

    /** 120 lines and 20 dishes, 0 dropped and the others finished. */
    static ChalkSlate fullOfDishes() {
        ChalkSlate x = new ChalkSlate();
        x.begin();
        cookTimes(x, 0, 40);
        x.drop(0);
        for (int dish = 1; dish < 20; dish++) {
            x.begin();
            x.finish(dish);
        }
        return x;
    }

    static ChalkSlate dishesOfAllKinds() {
        ChalkSlate x = new ChalkSlate();
        x.begin();
        x.finish(FINISHED_DISH);
        x.begin();
        x.drop(DROPPED_DISH);
        x.blow();
        x.begin();
        x.fall();
        x.begin();
        x.begin();
        x.cook(HOLDING_DISH, HELD_POT, 60);
        return x;
    }

    static ChalkSlate dishesOfAllKindsWithoutRoom() {
        ChalkSlate x = dishesOfAllKinds();
        for (int i = 0; i < 55; i++) {
            x.cook(HOLDING_DISH, HELD_POT, i);
        }
        return x;
    }
}
