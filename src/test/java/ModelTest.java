import java.util.ArrayList;
import java.util.List;

/**
 * Runs of calls, drawn by a fixed rule, against a second kitchen that is written
 * another way: it keeps no state of a dish, asks the lines for all, and answers
 * would() and left() by letting a copy of itself fall.
 */
public final class ModelTest {
    private static final int RUNS = 200;
    private static final int CALLS = 512;
    private static final int LAST_CHANGER = 6;
    private static final int INDEX = -1_000_001;
    private static final int ARGUMENT = -1_000_002;
    private static final int STATE = -1_000_003;
    private static final int[] WILD = {-1, -2, 8, 20, 120, 1000, Integer.MIN_VALUE, Integer.MAX_VALUE};

    private static long seed;

    public static void main(String[] args) {
        for (int run = 0; run < RUNS; run++) {
            seed = 77 + run;
            if (!agrees(run)) {
                System.exit(1);
            }
        }
        System.out.println("the model agrees in " + RUNS + " runs");
    }

    private static boolean agrees(int run) {
        ChalkSlate x = new ChalkSlate();
        Model m = new Model();
        int most = run % 3 == 0 ? 6 : 20;
        int calls = 0;
        // Each turn makes two calls at most, and none is the 513th.
        for (int n = 0; calls < CALLS - 1; n++) {
            int[] call = draw(m, run, most);
            calls++;
            long got = answer(x, call);
            long want = answer(m, call);
            if (got != want) {
                System.out.println("run " + run + ", turn " + n + ": method " + call[0] + "(" + call[1] + ", "
                        + call[2] + ", " + call[3] + ") answered " + got + ", due is " + want);
                return false;
            }
            if (call[0] <= LAST_CHANGER && n % 3 != 0 || n % 16 == 0) {
                calls++;
                if (x.digest() != m.digest()) {
                    System.out.println("run " + run + ", turn " + n + ": digest differs behind method " + call[0]
                            + "(" + call[1] + ", " + call[2] + ", " + call[3] + ")");
                    return false;
                }
            }
        }
        return true;
    }

    private static int[] draw(Model m, int run, int mostDishes) {
        int kind = next(100);
        int rare = 2 + run % 7;
        int dish = chance(3) ? wild() : next(Math.max(1, m.dishes));
        int pot = chance(2) ? wild() : next(8);
        if (kind < 8) {
            return m.dishes < mostDishes || chance(5) ? new int[] {0, 0, 0, 0} : new int[] {1, dish, pot, next(1000)};
        }
        if (kind < 50) {
            return new int[] {1, dish, pot, chance(2) ? wild() : next(1000)};
        }
        if (kind < 50 + rare) {
            return new int[] {2 + next(2), dish, 0, 0};
        }
        if (kind < 62) {
            return new int[] {4, pot, 0, 0};
        }
        if (kind < 62 + rare / 2) {
            return new int[] {5 + next(2), 0, 0, 0};
        }
        int line = chance(3) ? wild() : next(Math.max(1, m.slate.size()));
        int what = chance(3) ? wild() : next(11);
        int method = 7 + next(7);
        int first = method == 7 || method == 12 ? pot : method == 8 ? dish : method == 9 ? line : what;
        return new int[] {method, first, what > 6 ? what - 6 : what, 0};
    }

    private static int wild() {
        return WILD[next(WILD.length)];
    }

    private static boolean chance(int percent) {
        return next(100) < percent;
    }

    private static int next(int end) {
        seed = seed * 6364136223846793005L + 1442695040888963407L;
        return (int) ((seed >>> 33) % end);
    }

    private static long answer(ChalkSlate x, int[] call) {
        try {
            switch (call[0]) {
                case 0: return x.begin();
                case 1: return x.cook(call[1], call[2], call[3]);
                case 2: return x.finish(call[1]);
                case 3: return x.drop(call[1]);
                case 4: return x.shelve(call[1]);
                case 5: return x.blow();
                case 6: return x.fall();
                case 7: return x.pot(call[1], call[2]);
                case 8: return x.dish(call[1], call[2]);
                case 9: return x.line(call[1], call[2]);
                case 10: return x.count(call[1]);
                case 11: return x.would(call[1]);
                case 12: return x.left(call[1]);
                default: return (long) (x.mean() * 1000);
            }
        } catch (RuntimeException e) {
            // The very class: what the machine throws is of a class below.
            if (e.getClass() == IndexOutOfBoundsException.class) {
                return INDEX;
            }
            if (e.getClass() == IllegalArgumentException.class) {
                return ARGUMENT;
            }
            return e.getClass() == IllegalStateException.class ? STATE : Integer.MIN_VALUE;
        }
    }

    private static long answer(Model m, int[] call) {
        switch (call[0]) {
            case 0: return m.begin();
            case 1: return m.cook(call[1], call[2], call[3]);
            case 2: return m.finish(call[1]);
            case 3: return m.drop(call[1]);
            case 4: return m.shelve(call[1]);
            case 5: return m.blow();
            case 6: return m.fall();
            case 7: return m.pot(call[1], call[2]);
            case 8: return m.dish(call[1], call[2]);
            case 9: return m.line(call[1], call[2]);
            case 10: return m.count(call[1]);
            case 11: return m.would(call[1]);
            case 12: return m.left(call[1]);
            default: return (long) (m.mean() * 1000);
        }
    }

    private record Line(int dish, int kind, int pot, int ahead, int behind, int takes) { }

    private static final class Model {
        private List<Line> slate = new ArrayList<>();
        private int dry = 0;
        private int dishes = 0;
        private int falls = 0;
        private int takenByFall = 0;
        private int[] stove = new int[8];
        private int[] shelf = new int[8];
        private int[] stamp = {-1, -1, -1, -1, -1, -1, -1, -1};

        Model copy() {
            Model c = new Model();
            c.slate = new ArrayList<>(slate);
            c.dry = dry;
            c.dishes = dishes;
            c.stove = stove.clone();
            c.shelf = shelf.clone();
            c.stamp = stamp.clone();
            return c;
        }

        boolean has(int dish, int kind) {
            return slate.stream().anyMatch(l -> l.dish == dish && l.kind == kind);
        }

        int state(int dish) {
            return !has(dish, 0) ? 3 : has(dish, 2) ? 1 : has(dish, 4) ? 2 : 0;
        }

        List<Integer> untaken(int dish) {
            List<Integer> found = new ArrayList<>();
            for (int i = 0; i < slate.size(); i++) {
                if (slate.get(i).dish == dish && slate.get(i).kind == 1) {
                    found.add(i);
                }
            }
            for (Line l : slate) {
                if (l.kind == 3) {
                    found.remove((Object) l.takes);
                }
            }
            return found;
        }

        int room() {
            int room = 120 - slate.size();
            for (int dish = 0; dish < dishes; dish++) {
                room -= state(dish) == 0 ? 1 + untaken(dish).size() : 0;
            }
            return room;
        }

        int holder(int pot) {
            for (Line l : slate) {
                if (l.kind == 1 && l.pot == pot && state(l.dish) == 0) {
                    return l.dish;
                }
            }
            return -1;
        }

        boolean fits(Line line) {
            int oldDishes = dishes;
            slate.add(line);
            dishes = Math.max(dishes, line.dish + 1);
            boolean fits = room() >= 0;
            slate.remove(slate.size() - 1);
            dishes = oldDishes;
            return fits;
        }

        int begin() {
            Line line = new Line(dishes, 0, -1, -1, -1, -1);
            if (dishes == 20 || !fits(line)) {
                return STATE;
            }
            slate.add(line);
            return dishes++;
        }

        int cook(int dish, int pot, int spoons) {
            if (dish < 0 || dish >= dishes || pot < 0 || pot > 7) {
                return INDEX;
            }
            if (spoons < 0 || spoons > 999) {
                return ARGUMENT;
            }
            Line line = new Line(dish, 1, pot, stove[pot], spoons, -1);
            if (state(dish) != 0 || holder(pot) != -1 && holder(pot) != dish || !fits(line)) {
                return STATE;
            }
            slate.add(line);
            stove[pot] = spoons;
            return line.ahead;
        }

        int finish(int dish) {
            if (dish < 0 || dish >= dishes) {
                return INDEX;
            }
            if (state(dish) != 0) {
                return STATE;
            }
            slate.add(new Line(dish, 2, -1, -1, -1, -1));
            return blow();
        }

        int drop(int dish) {
            if (dish < 0 || dish >= dishes) {
                return INDEX;
            }
            return state(dish) != 0 ? STATE : undo(dish);
        }

        int undo(int dish) {
            List<Integer> taken = untaken(dish);
            for (int i = taken.size() - 1; i >= 0; i--) {
                Line l = slate.get(taken.get(i));
                slate.add(new Line(dish, 3, l.pot, stove[l.pot], l.ahead, taken.get(i)));
                stove[l.pot] = l.ahead;
            }
            slate.add(new Line(dish, 4, -1, -1, -1, -1));
            return taken.size();
        }

        int latest(int pot) {
            int latest = -1;
            for (int i = 0; i < slate.size(); i++) {
                latest = slate.get(i).pot == pot ? i : latest;
            }
            return latest;
        }

        int shelve(int pot) {
            if (pot < 0 || pot > 7) {
                return INDEX;
            }
            int old = dry;
            while (dry <= latest(pot)) {
                dry++;
            }
            shelf[pot] = stove[pot];
            stamp[pot] = latest(pot);
            return dry - old;
        }

        int blow() {
            int old = dry;
            dry = slate.size();
            return dry - old;
        }

        int fall() {
            while (slate.size() > dry) {
                slate.remove(slate.size() - 1);
            }
            stove = shelf.clone();
            int anew = 0;
            for (int i = 0; i < slate.size(); i++) {
                Line l = slate.get(i);
                if ((l.kind == 1 || l.kind == 3) && i > stamp[l.pot]) {
                    stove[l.pot] = l.behind;
                    anew++;
                }
            }
            takenByFall = 0;
            for (int dish = dishes - 1; dish >= 0; dish--) {
                takenByFall += state(dish) == 0 ? undo(dish) : 0;
            }
            falls++;
            return anew;
        }

        int pot(int pot, int what) {
            if (pot < 0 || pot > 7 || what < 0 || what > 4) {
                return INDEX;
            }
            return new int[] {stove[pot], shelf[pot], stamp[pot], holder(pot), latest(pot)}[what];
        }

        int dish(int dish, int what) {
            if (dish < 0 || dish >= dishes || what < 0 || what > 4) {
                return INDEX;
            }
            int count = 0;
            int last = -1;
            for (int i = 0; i < slate.size(); i++) {
                if (slate.get(i).dish == dish) {
                    count++;
                    last = i;
                }
            }
            int held = 0;
            for (int pot = 0; pot < 8; pot++) {
                held += holder(pot) == dish ? 1 : 0;
            }
            return new int[] {state(dish), count, untaken(dish).size(), held, last}[what];
        }

        int line(int line, int what) {
            if (line < 0 || line >= slate.size() || what < 0 || what > 6) {
                return INDEX;
            }
            Line l = slate.get(line);
            return new int[] {l.dish, l.kind, l.pot, l.ahead, l.behind, l.takes, line < dry ? 1 : 0}[what];
        }

        int count(int what) {
            if (what < 0 || what > 10) {
                return INDEX;
            }
            int[] states = new int[4];
            for (int dish = 0; dish < dishes; dish++) {
                states[state(dish)]++;
            }
            int onStove = 0;
            int onShelf = 0;
            for (int pot = 0; pot < 8; pot++) {
                onStove += stove[pot];
                onShelf += shelf[pot];
            }
            return new int[] {slate.size(), dry, dishes, states[0], states[1], states[2], states[3], room(),
                onStove, onShelf, falls}[what];
        }

        int would(int what) {
            if (what < 0 || what > 4) {
                return INDEX;
            }
            Model c = copy();
            int anew = c.fall();
            int first = -1;
            for (int i = dry - 1; i >= 0; i--) {
                int pot = slate.get(i).pot;
                first = pot >= 0 && i > stamp[pot] ? i : first;
            }
            return new int[] {slate.size() - dry, anew, c.takenByFall, first, c.count(6) - count(6)}[what];
        }

        int left(int pot) {
            if (pot < 0 || pot > 7) {
                return INDEX;
            }
            Model c = copy();
            c.fall();
            return c.stove[pot];
        }

        double mean() {
            return count(8) / 8.0;
        }

        long digest() {
            long d = 1291;
            for (int what = 0; what < 11; what++) {
                d = d * 31 + count(what);
            }
            for (int i = 0; i < 8 * 5; i++) {
                d = d * 31 + pot(i / 5, i % 5);
            }
            for (int i = 0; i < dishes * 5; i++) {
                d = d * 31 + dish(i / 5, i % 5);
            }
            for (int i = 0; i < slate.size() * 7; i++) {
                d = d * 31 + line(i / 7, i % 7);
            }
            return d;
        }
    }
}
