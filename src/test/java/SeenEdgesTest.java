/** Promises 30 to 38, and what section 3 says of them, at their boundaries. */
public final class SeenEdgesTest {
    private static final String MOST = "k2 9;p9 9 9 9;p9 9 9 9;p9 9 9 9;p9 9 9 9;p9 9 9 9;p9 9 9 9;p9 9 9 9;o0;o1;o2;o0;";
    /** 0 goes, then 1, by turns; one of the others is made. */
    private static final String TURNS = "k0 1;p9 9 9 9;p8 8 8 8;p1 1 1 1;o0;o1;";

    public static void main(String[] args) {
        promise30();
        promise30SixAtMost();
        promise31();
        promise31Bounds();
        promise31AllThatIsSeen();
        promise32();
        promise32EachSeen();
        promise33();
        promise33TwentyAtMost();
        promise34();
        promise34FirstAndLast();
        promise35();
        promise36();
        promise37();
        promise37Again();
        promise38();
        promise38AllThatIsKept();
        promise38WithoutAKingdom();
        Due.end("SeenEdgesTest");
    }

    // ---- promise 30: MARK m (0 .. 99) by EFFORT e (0 .. 9): how much. OUTSIDE, FULL (6)

    private static void promise30() {
        Run x = Run.on("see").rows("see(-1, 0) = OUTSIDE; see(10, 0) = OUTSIDE; see(MIN, 0) = OUTSIDE; see(MAX, 0) = OUTSIDE");
        x.rows("see(0, -1) = OUTSIDE; see(0, 100) = OUTSIDE; see(0, MIN) = OUTSIDE; see(0, MAX) = OUTSIDE; see(10, 100) = OUTSIDE; told(14) = 0");
        x.rows("see(0, 0) = 1; see(9, 0) = 2; see(0, 99) = 3; see(9, 99) = 4; told(14) = 4");
        Run.of("see in a kingdom", TURNS).rows("see(0, 0) = 1; day(1) = 1; told(14) = 1; undo(1) = 0; told(14) = 1; keep(0) = 1; goBack(0) = 1; told(14) = 1");
    }

    private static void promise30SixAtMost() {
        Run x = Run.on("six").rows("see(0, 5) = 1; see(0, 5) = 2; see(0, 5) = 3; see(0, 5) = 4; see(0, 5) = 5; told(14) = 5; see(0, 5) = 6");
        x.rows("told(14) = 6; see(1, 9) = FULL; see(0, 5) = FULL; told(14) = 6; truly(0..1) = 10 5; see(10, 0) = OUTSIDE; see(0, 100) = OUTSIDE");
        x.rows("see(-1, -1) = OUTSIDE; tear() = 6; see(1, 9) = 1; truly(0..1) = 10 9");
        Run y = Run.of("six and a new text", "k0 1;").rows("see(0, 5); see(0, 5); see(0, 5); see(0, 5); see(0, 5); see(0, 5) = 6").feed("k0 1;");
        y.rows("kingdom() = 0; told(14) = 0; see(0, 5) = 1").feed("x").rows("kingdom() = -11; told(14) = 1");
    }

    // ---- promise 31: TRULY: what = 0 how many, 1 the least; NONE. OUTSIDE

    private static void promise31() {
        Run x = Run.on("truly").rows("truly(-1) = OUTSIDE; truly(2) = OUTSIDE; truly(MIN) = OUTSIDE; truly(MAX) = OUTSIDE; truly(0..1) = 100 0");
        x.rows("see(0, 10) = 1; truly(0..1) = 0 NONE; truly(2) = OUTSIDE; truly(-1) = OUTSIDE");
    }

    private static void seen(int e, int m, int howMany, int least) {
        Run.on("seen " + e + ", " + m).rows("see(" + e + ", " + m + ") = 1; truly(0..1) = " + howMany + " " + least);
    }

    /** GIFT g (0 .. 9) and DARING d (0 .. 9), pairs: 10 times g, and d. */
    private static void promise31Bounds() {
        seen(0, 0, 10, 0);
        seen(0, 9, 10, 9);
        seen(0, 10, 0, Due.NONE);
        seen(0, 99, 0, Due.NONE);
        seen(1, 0, 1, 0);
        seen(1, 9, 10, 9);
        seen(1, 10, 9, 19);
        seen(1, 18, 1, 99);
        seen(1, 19, 0, Due.NONE);
        seen(5, 29, 2, 49);
        seen(9, 0, 1, 0);
        seen(9, 8, 1, 8);
        seen(9, 9, 2, 9);
        seen(9, 10, 1, 11);
        seen(9, 89, 1, 98);
        seen(9, 90, 1, 99);
        seen(9, 91, 0, Due.NONE);
        seen(9, 99, 0, Due.NONE);
        seen(8, 80, 1, 98);
        seen(8, 82, 0, Due.NONE);
    }

    private static void promise31AllThatIsSeen() {
        Run x = Run.on("the sixth counts, too").rows("see(1, 9); see(1, 9); see(1, 9); see(1, 9); see(1, 9) = 5; truly(0..1) = 10 9; see(2, 18) = 6");
        x.rows("truly(0..1) = 1 90");
        Run y = Run.on("the first counts yet").rows("see(2, 18) = 1; see(1, 9); see(1, 9); see(1, 9); see(1, 9); see(1, 9) = 6; truly(0..1) = 1 90");
        y.rows("tear() = 6; truly(0..1) = 100 0");
        // 90 by 9 and 80 by 8 would be a gift of 10, 11 by 1 and 10 by 0 a daring of 10
        Run.on("no gift of 10").rows("see(9, 90) = 1; see(8, 80) = 2; truly(0..1) = 0 NONE; tryNext() = NONE");
        Run.on("no daring of 10").rows("see(1, 11) = 1; see(0, 10) = 2; truly(0..1) = 0 NONE; tryNext() = NONE");
        Run.on("at odds").rows("see(3, 3) = 1; see(3, 4) = 2; truly(0..1) = 0 NONE; tryNext() = NONE");
        // rain and what persons can do have no part in it
        Run.of("dry", "k0 1;p9 9 9 9;").rows("rain(true) = 0; see(0, 9) = 1; truly(0..1) = 10 9");
    }

    // ---- promise 32: the greatest part that is alike is least; of like ones the least; NONE: none parts them

    private static void promise32() {
        Run x = Run.on("try").rows("tryNext() = 5; see(0, 0) = 1; truly(0) = 10; tryNext() = 1; see(1, 0) = 2; truly(0) = 1; tryNext() = NONE");
        x.rows("see(1, 1) = 3; truly(0) = 0; tryNext() = NONE; tear() = 3; tryNext() = 5");
        Run.on("two left").rows("see(5, 29) = 1; truly(0) = 2; tryNext() = 0");
        Run.on("two left again").rows("see(9, 9) = 1; truly(0) = 2; tryNext() = 0");
        // 10 pairs of one daring: 0 leaves them alike
        Run.on("by 1").rows("see(0, 9) = 1; truly(0) = 10; tryNext() = 1");
    }

    /** Each that can be seen, against parts that are counted here. */
    private static void promise32EachSeen() {
        for (int e = 0; e <= 9; e++) {
            Run x = Run.on("try behind " + e);
            for (int m = 0; m <= 99; m++) {
                x.rows("see(" + e + ", " + m + ") = 1; tryNext() = " + bestBehind(e, m) + "; tear() = 1");
            }
        }
    }

    private static int bestBehind(int e, int m) {
        int best = Due.NONE;
        int least = 0;
        for (int t = 0; t <= 9; t++) {
            int[] parts = new int[100];
            int all = 0;
            int greatest = 0;
            for (int g = 0; g <= 9; g++) {
                int d = m - g * e;
                if (d >= 0 && d <= 9) {
                    all++;
                    parts[g * t + d]++;
                    greatest = Math.max(greatest, parts[g * t + d]);
                }
            }
            if (greatest < all && (best == Due.NONE || greatest < least)) {
                best = t;
                least = greatest;
            }
        }
        return best;
    }

    // ---- promise 33: An entry behind THE BOOK (a PERSON, or NONE): how many. UNKNOWN, FULL (20)

    private static void promise33() {
        Run x = Run.of("write", MOST).rows("write(-1, 0) = UNKNOWN; write(4, 0) = UNKNOWN; write(MIN, 0) = UNKNOWN; write(MAX, 0) = UNKNOWN");
        x.rows("write(0, -2) = UNKNOWN; write(0, 7) = UNKNOWN; write(0, MIN) = UNKNOWN; write(0, MAX) = UNKNOWN; write(-1, -2) = UNKNOWN");
        x.rows("write(-1, NONE) = UNKNOWN; write(4, NONE) = UNKNOWN; told(15) = 0; write(0, NONE) = 1; write(3, 0) = 2; write(3, 6) = 3; told(15) = 3");
        Run.on("write without a kingdom").rows("write(0, NONE) = UNKNOWN; write(0, 0) = UNKNOWN");
        Run.of("write without offices", "k0 1;p1 1 1 1;").rows("write(0, NONE) = UNKNOWN; write(0, 0) = UNKNOWN");
        Run.of("write without persons", "k0 1;o0;").rows("write(0, 0) = UNKNOWN; write(0, NONE) = 1; judge() = NONE");
        Run.of("not undone", TURNS).rows("day(1) = 1; write(0, 1) = 1; undo(1) = 0; told(15) = 1; keep(0) = 1; write(1, 1) = 2; goBack(0) = 1; told(15) = 2");
    }

    private static void promise33TwentyAtMost() {
        Run x = Run.of("twenty", MOST);
        for (int i = 1; i <= 20; i++) {
            x.rows("write(" + i % 4 + ", NONE) = " + i + "; told(15) = " + i);
        }
        x.rows("write(0, 0) = FULL; write(3, 6) = FULL; write(0, NONE) = FULL; write(4, 0) = UNKNOWN; write(-1, 0) = UNKNOWN; write(0, 7) = UNKNOWN");
        x.rows("write(0, -2) = UNKNOWN; told(15) = 20; judge() = NONE; tear() = 20; write(0, 0) = 1; judge() = 0");
    }

    // ---- promise 34: WRONG: the first that is otherwise now; NONE

    private static void promise34() {
        Run.on("judge nothing").rows("judge() = NONE");
        Run x = Run.of("judge", TURNS).rows("judge() = NONE; write(0, NONE) = 1; judge() = NONE; write(1, 0) = 2; judge() = 1; write(0, 1) = 3; judge() = 1");
        // 1 holds office 0 from now on
        x.rows("day(1) = 1; judge() = 0; tear() = 3; judge() = NONE; write(0, 1) = 1; write(1, NONE) = 2; judge() = NONE; send(1) = 1; judge() = 0");
        x.rows("undo(1) = 1; judge() = NONE; undo(1) = 0; judge() = 0");
        Run.of("the least and the greatest person", "k0 1;p9 0 0 0;p1 0 0 0;o0;").rows("day(1) = 1; write(0, 1) = 1; judge() = NONE; write(0, 0) = 2; judge() = 1");
        // what was written is gone with a new text, and stays with a fault
        Run y = Run.of("a new text", TURNS).rows("write(0, 0) = 1; judge() = 0").feed("k").rows("kingdom() = -11; judge() = 0; told(15) = 1");
        y.feed("k0 1;").rows("kingdom() = 0; judge() = NONE; told(15) = 0");
    }

    private static void promise34FirstAndLast() {
        Run x = Run.of("the twentieth", TURNS);
        for (int i = 1; i <= 19; i++) {
            x.rows("write(" + i % 2 + ", NONE) = " + i);
        }
        x.rows("judge() = NONE; write(1, 2) = 20; judge() = 19; write(0, 0) = FULL; judge() = 19; day(1) = 1; judge() = 1");
    }

    // ---- promise 35: Nothing SEEN, no BOOK: how much both had

    private static void promise35() {
        Run x = Run.of("tear", TURNS).rows("tear() = 0; see(0, 0) = 1; tear() = 1; write(0, 0) = 1; tear() = 1; tear() = 0");
        for (int i = 1; i <= 20; i++) {
            x.rows("write(0, 0) = " + i);
        }
        x.rows("see(9, 99); see(9, 99); see(9, 99); see(9, 99); see(9, 99); see(9, 99) = 6; told(14..15) = 6 20; tear() = 26; told(14..15) = 0; tear() = 0");
        x.rows("truly(0..1) = 100 0; judge() = NONE; see(0, 0) = 1; write(0, 0) = 1; told(16) = 0; told(6) = 0");
        Run.on("tear without a kingdom").rows("tear() = 0; see(0, 0) = 1; tear() = 1; told(14) = 0");
    }

    // ---- promise 36: THE SEED becomes v (0 .. 2147483647): what it was. OUTSIDE

    private static void promise36() {
        Run x = Run.on("seed").rows("seed(-1) = OUTSIDE; seed(MIN) = OUTSIDE; seed(-1000000001) = OUTSIDE; seed(1) = 0; seed(-1) = OUTSIDE; seed(MAX) = 1");
        x.rows("seed(MIN) = OUTSIDE; seed(2147483646) = MAX; seed(0) = 2147483646; seed(0) = 0");
        Run y = Run.of("seed in a kingdom", TURNS).rows("seed(5) = 0; day(1) = 1; seed(5) = 5; drift(1) = 2; undo(2) = 0; told(16) = 0; seed(5)");
        y.rows("seed(6) = 5; undo(1) = NOT; seed(6) = 6").feed(TURNS).rows("kingdom() = 3; seed(0) = 6");
    }

    // ---- promise 37: IMAGE i becomes what is so (nothing can be undone then): 1. UNKNOWN

    private static void promise37() {
        Run x = Run.of("keep", TURNS).rows("day(2) = 2; keep(-1) = UNKNOWN; keep(2) = UNKNOWN; keep(MIN) = UNKNOWN; keep(MAX) = UNKNOWN; told(16) = 2");
        x.rows("goBack(0..1) = NOT; keep(0) = 1; told(16) = 0; undo(1) = NOT; told(6) = 2; goBack(1) = NOT; day(1) = 3; keep(1) = 1; undo(1) = NOT");
        x.rows("told(6) = 3; goBack(0) = 1; told(6) = 2; goBack(1) = 1; told(6) = 3");
        Run.of("keep 1 alone", TURNS).rows("keep(1) = 1; goBack(0) = NOT; goBack(1) = 1");
    }

    private static void promise37Again() {
        Run x = Run.of("keep again", TURNS).rows("seed(1) = 0; keep(0) = 1; keep(1) = 1; day(1) = 1; seed(2) = 1; keep(0) = 1; day(1) = 2; goBack(0) = 1");
        x.rows("told(6) = 1; seed(3) = 2; goBack(1) = 1; told(6) = 0; seed(4) = 1; keep(0) = 1; goBack(0) = 1; told(6) = 0; seed(5) = 4; keep(2) = UNKNOWN");
        x.rows("goBack(0) = 1; seed(6) = 4; goBack(1) = 1; seed(0) = 1");
    }

    // ---- promise 38: What is so becomes IMAGE i (nothing can be undone then): 1. UNKNOWN, NOT: it was not kept

    private static void promise38() {
        Run x = Run.of("goBack", TURNS).rows("day(1) = 1; goBack(-1) = UNKNOWN; goBack(2) = UNKNOWN; goBack(MIN) = UNKNOWN; goBack(MAX) = UNKNOWN");
        x.rows("goBack(0..1) = NOT; told(6) = 1; told(16) = 1; keep(0) = 1; day(2) = 3; goBack(1) = NOT; goBack(2) = UNKNOWN; told(16) = 2");
        x.rows("goBack(0) = 1; told(6) = 1; told(16) = 0; undo(1) = NOT; goBack(0) = 1; day(3) = 4; goBack(0) = 1; told(6) = 1");
        Run y = Run.of("gone with a text", TURNS).rows("keep(0) = 1; keep(1) = 1").feed("k").rows("kingdom() = -11; goBack(0..1) = 1");
        y.feed(TURNS).rows("kingdom() = 3; goBack(0..1) = NOT; keep(1) = 1; goBack(0) = NOT; goBack(1) = 1; kingdom() = 0; goBack(0..1) = NOT");
    }

    /** IMAGES keep all of section 2 (GIFTS, too), THE SEED; neither what is SEEN nor THE BOOK. */
    private static void promise38AllThatIsKept() {
        Run x = Run.of("all that is kept", TURNS).rows("day(25) = 25; rain(true) = 0; effort(2, 9) = 5; teach(0, 2, 3) = 9; send(2); seed(654583775) = 0");
        Run y = Run.of("the same, not gone on", TURNS).rows("day(25) = 25; rain(true) = 0; effort(2, 9) = 5; teach(0, 2, 3) = 9; send(2); seed(654583775) = 0");
        x.rows("keep(1) = 1; drift(30) = 55; see(1, 1) = 1; write(0, 0) = 1; rain(false); teach(0, 2, 4); teach(1, 0, 9); goBack(1) = 1; told(14..15) = 1");
        x.rows("tear() = 2; told(16) = 0; seed(0) = 654583775; told(6..7) = 25 1");
        String[] asked = {"told 16 1", "person 3 8", "office 2 2", "logged 21 4", "ahead 3 1"};
        for (String ask : asked) {
            String[] parts = ask.split(" ");
            for (int i = 0; i < Integer.parseInt(parts[1]); i++) {
                for (int j = 0; j < Integer.parseInt(parts[2]); j++) {
                    Due.due("as kept, " + parts[0] + "(" + i + ", " + j + ")", x.call(parts[0], i, j, 0), y.call(parts[0], i, j, 0));
                }
            }
        }
    }

    private static void promise38WithoutAKingdom() {
        Run x = Run.on("images without a kingdom").rows("goBack(0..1) = NOT; seed(3) = 0; keep(0) = 1; seed(4) = 3; goBack(1) = NOT; goBack(0) = 1; seed(5) = 3");
        x.rows("told(0) = NONE; day(1) = NOT").feed("k0 1;").rows("kingdom() = 0; goBack(0) = NOT; day(1) = 1; seed(0) = 5");
    }
}
