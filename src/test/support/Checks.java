/** What the tests share: checks that tell which words of the document do not hold. */
class Checks {
    static final String NOTHING = "nothing";
    static final String INDEX = "IndexOutOfBoundsException";
    static final String ARGUMENT = "IllegalArgumentException";
    static final String STATE = "IllegalStateException";

    private static int wrong = 0;
    private static String words = "";

    interface Call {
        void run();
    }

    /** Names the words of the document that the checks behind this rest on. */
    static void says(String where, String text) {
        words = where + ": " + text;
    }

    static void endWith(String good) {
        System.out.println(wrong == 0 ? good : wrong + " answers are wrong");
        if (wrong != 0) {
            System.exit(1);
        }
    }

    /** Numbers that are not 0 to end - 1, those among them that wrap around when multiplied or cut to fewer bits. */
    static int[] beyond(int end) {
        return new int[] {
            -1, end, end + 1, -end, -end - 1, -256, 256, 65536, 1 << 29, 1 << 30, Integer.MIN_VALUE, Integer.MAX_VALUE,
        };
    }

    static void counts(ChalkSlate x, int... want) {
        for (int what = 0; what < 11; what++) {
            due("count(" + what + ")", x.count(what), want[what]);
        }
    }

    static void potIs(ChalkSlate x, int pot, int... want) {
        for (int what = 0; what < 5; what++) {
            due("pot(" + pot + ", " + what + ")", x.pot(pot, what), want[what]);
        }
    }

    static void dishIs(ChalkSlate x, int dish, int... want) {
        for (int what = 0; what < 5; what++) {
            due("dish(" + dish + ", " + what + ")", x.dish(dish, what), want[what]);
        }
    }

    static void lineIs(ChalkSlate x, int line, int... want) {
        for (int what = 0; what < 7; what++) {
            due("line(" + line + ", " + what + ")", x.line(line, what), want[what]);
        }
    }

    static void woulds(ChalkSlate x, int... want) {
        for (int what = 0; what < 5; what++) {
            due("would(" + what + ")", x.would(what), want[what]);
        }
    }

    static void lefts(ChalkSlate x, int... want) {
        for (int pot = 0; pot < 8; pot++) {
            due("left(" + pot + ")", x.left(pot), want[pot]);
        }
    }

    /** The call throws this very class, none below it, and changes nothing. */
    static void refused(ChalkSlate x, String want, String name, Call call) {
        long before = x.digest();
        String got = NOTHING;
        try {
            call.run();
        } catch (RuntimeException e) {
            got = e.getClass().getSimpleName();
        }
        if (!got.equals(want)) {
            tell(name + " threw " + got + ", due is " + want);
        }
        due(name + " changes nothing: digest()", x.digest(), before);
    }

    static void due(String name, long got, long want) {
        if (got != want) {
            tell(name + " answered " + got + ", due is " + want);
        }
    }

    static void dueDouble(String name, double got, double want) {
        if (got != want) {
            tell(name + " answered " + got + ", due is " + want);
        }
    }

    private static void tell(String text) {
        wrong++;
        System.out.println(words + ": " + text);
    }
}
