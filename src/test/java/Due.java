/** Counts answers that are not as due, and makes kingdoms out of plain texts. */
final class Due {
    static final int NONE = -1, UNKNOWN = -1000000001, OUTSIDE = -1000000002, NOT = -1000000003, FULL = -1000000004;
    static final int[] FAR = {Integer.MIN_VALUE, -1000000001, -2, Integer.MAX_VALUE};

    private static int checks = 0;
    private static int wrong = 0;

    private Due() {
    }

    static void due(String call, int got, int want) {
        checks++;
        if (got != want) {
            wrong++;
            System.out.println(call + " answered " + got + ", due is " + want);
        }
    }

    /** All answers of a row at once. */
    static void row(String call, int[] got, int... want) {
        due(call + ": how many", got.length, want.length);
        for (int i = 0; i < Math.min(got.length, want.length); i++) {
            due(call + " [" + i + "]", got[i], want[i]);
        }
    }

    static void feed(SecondBest x, String text) {
        for (int i = 0; i < text.length(); i++) {
            x.feed(text.charAt(i));
        }
    }

    static int tell(SecondBest x, String text) {
        feed(x, text);
        return x.kingdom();
    }

    static SecondBest of(String text) {
        SecondBest x = new SecondBest();
        int persons = tell(x, text);
        if (persons < 0) {
            due("a text of the test itself, " + text, persons, 0);
        }
        return x;
    }

    /** Ends the test: 1, if an answer was not as due. */
    static void end(String name) {
        System.out.println(name + ": " + checks + " checks, " + wrong + " wrong");
        if (wrong != 0 || checks == 0) {
            System.exit(1);
        }
    }
}
