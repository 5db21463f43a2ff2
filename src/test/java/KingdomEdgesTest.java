/** Promises 1 to 9 at their boundaries; those of the text itself are in TextEdgesTest. */
public final class KingdomEdgesTest {
    /** As many persons, offices and numbers of kinds as there may be. */
    private static final String MOST = "k2 9;p9 9 9 9;p9 9 9 9;p9 9 9 9;p9 9 9 9;p9 9 9 9;p9 9 9 9;p9 9 9 9;"
        + "d2,1,0,2,1,0,2,1,0,2,1,0;o0;o1;o2;o0;";
    /** One goes and one is made each day, in kinds 0 and 1 by turns: 0 and 1 go by turns, 2 is made. */
    private static final String TURNS = "k0 1;p9 9 0 9;p9 9 0 9;p1 1 0 0;d0,1;o0;o1;";

    public static void main(String[] args) {
        promise1AskedOfNothing();
        promise1DoneToNothing();
        promise2Letters();
        promise3WhatIsGone();
        promise3WhatStays();
        promise3NumbersOfFaults();
        promise3AFaultChangesNothing();
        promise4();
        promise5Whats();
        promise5Least();
        promise5Most();
        promise5Nearly();
        promise5NearlyOfThree();
        promise5Rings();
        promise5Brilliant();
        promise5Vacant();
        promise5Counters();
        promise6();
        promise6Coast();
        promise7();
        promise8();
        promise8WrapsRound();
        promise9();
        promise9TheLatestTwenty();
        promise9WithoutAContest();
        Due.end("KingdomEdgesTest");
    }

    // ---- promise 1: No KINGDOM

    private static void promise1AskedOfNothing() {
        Run x = Run.on("new").rows("told(0) = NONE; told(1..9) = 0; told(10) = NONE; told(11..16) = 0; fault() = NONE");
        x.rows("person(0, 0..8) = UNKNOWN; office(0, 0..2) = UNKNOWN; ahead(0) = NOT; ahead(60) = NOT; logged(0, 0..3) = NONE");
        x.rows("mark(0, 0) = UNKNOWN; place(0, 0) = UNKNOWN; wouldBe(0..2, 0) = 0; wouldBe(0..2, 1) = NONE; holds(0, 0) = UNKNOWN");
        x.rows("efforts(0, 0) = UNKNOWN; restless(0..2) = 0; letWin(0, 0, 0) = UNKNOWN; win(0, 0, 1) = UNKNOWN");
        x.rows("next(0) = UNKNOWN; beats(0, 1) = UNKNOWN; spread(0..2) = 0; dry(0, 0) = BILLION; truly(0..1) = 100 0");
        x.rows("tryNext() = 5; judge() = NONE");
    }

    private static void promise1DoneToNothing() {
        Run x = Run.on("new").rows("day(1) = NOT; effort(0, 0) = UNKNOWN; rain(true) = NOT; rain(false) = NOT");
        x.rows("teach(0, 0, 0) = UNKNOWN; send(0) = UNKNOWN; recall(0) = UNKNOWN; drift(1) = NOT; undo(1) = NOT");
        x.rows("write(0, NONE) = UNKNOWN; goBack(0..1) = NOT; tear() = 0; seed(0) = 0; told(6) = 0; told(16) = 0");
        x.rows("see(0, 0) = 1; tear() = 1; seed(7) = 0; keep(0) = 1; seed(8) = 7; goBack(0) = 1; goBack(1) = NOT; seed(0) = 7");
        x.rows("told(0) = NONE; told(2) = 0");
    }

    // ---- promise 2: A letter (0 .. 255) comes behind THE TEXT: how many it has. OUTSIDE, FULL (240)

    private static void promise2Letters() {
        Run x = Run.on("feed").rows("feed(-1) = OUTSIDE; feed(256) = OUTSIDE; feed(MIN) = OUTSIDE; feed(MAX) = OUTSIDE");
        // 107 and 256 would be a 'k' again, if numbers were cut to letters
        x.rows("feed(363) = OUTSIDE; told(5) = 0; feed(0) = 1; feed(255) = 2; feed(-1) = OUTSIDE; told(5) = 2; feed(1) = 3");
        x.rows("kingdom() = -11; fault() = 0; told(5) = 0");
        Run full = Run.on("full").feed("k0 1;" + " ".repeat(234)).rows("told(5) = 239; feed(111) = 240; feed(111) = FULL");
        full.rows("feed(0) = FULL; feed(255) = FULL; feed(-1) = OUTSIDE; feed(256) = OUTSIDE; told(5) = 240");
        full.rows("kingdom() = -11; fault() = 240; feed(-1) = OUTSIDE; feed(107) = 1");
    }

    // ---- promise 3: (DAY 0, all at COURT, ..; IMAGES, what could be undone are gone; THE SEED stays)

    private static Run rich(String title) {
        // kind 1: 22 24 14: 1 goes, 0 is made; kind 2: 17 - 19: 2 goes, 0 is made
        Run x = Run.of(title, "k1 2;p5 4 3 2;p4 4 4 4;p1 2 3 4;d1,2;o1;o2;");
        x.rows("day(2) = 2; rain(true) = 0; effort(2, 9) = 5; teach(2, 0, 7) = 1; keep(0) = 1; keep(1) = 1; rain(true) = 1");
        return x.rows("seed(77) = 0; see(1, 2) = 1; see(1, 2) = 2; write(0, 0) = 1; send(0) = 0; told(8) = 0; told(16) = 2");
    }

    private static void promise3WhatIsGone() {
        Run x = rich("what is gone").feed("k0 3;p1 2 3 4;o0;").rows("told(5) = 17; kingdom() = 1; told(5) = 0; fault() = NONE");
        x.rows("told(0..4) = 0 3 1 1 0; told(6..7) = 0; told(8..9) = 1; told(10) = NONE; told(11..16) = 0");
        x.rows("person(0, 0..7) = 1 2 3 4 5 0 0 0; person(1, 0) = UNKNOWN; office(0, 0..1) = 0 NONE; office(1, 0) = UNKNOWN");
        x.rows("ahead(0..2) = 0; logged(0, 0..3) = NONE; undo(1) = NOT; goBack(0..1) = NOT; judge() = NONE; truly(0) = 100");
        x.rows("tear() = 0; mark(0, 0) = 9");
        // the same text again: nothing is left of what has been done to it
        Run y = Run.of("the same again", TURNS).rows("day(7) = 7; rain(true) = 0; effort(2, 0) = 5; teach(2, 2, 9) = 0");
        y.feed(TURNS).rows("kingdom() = 3; told(6..8) = 0 0 7; told(9) = 3; told(12..13) = 0; person(2, 0..7) = 1 1 0 0 5 0 0 0");
        y.rows("person(0, 4..7) = 5 0 0 0; person(1, 4..7) = 5 0 0 0; office(0..1, 1) = NONE; day(1) = 1; logged(0, 0) = 0");
    }

    private static void promise3WhatStays() {
        rich("the seed stays").feed("k0 1;").rows("kingdom() = 0; seed(9) = 77; kingdom() = 0; seed(0) = 9");
        rich("the seed stays with a fault").feed("k0").rows("kingdom() = -11; seed(0) = 77");
    }

    private static void promise3NumbersOfFaults() {
        Run.on("faults").feed("x").rows("kingdom() = -11").feed("k3").rows("kingdom() = -12").feed("k0 1;k").rows("kingdom() = -13");
        Run.of("no person", "k0 1;").rows("told(2) = 0");
        Run.on("seven persons").feed(MOST).rows("kingdom() = 7");
    }

    private static void promise3AFaultChangesNothing() {
        for (String faulty : new String[] {"x", "k0 1;p9 9 9 9;d2;o2", "k3 1;", "k0 1;k", "k0 1;p9 9 9 9;p9 9 9 10;", "k"}) {
            Run x = rich("a fault: '" + faulty + "'").feed(faulty).rows("kingdom()");
            x.rows("told(0..9) = 1 2 3 2 2 0 2 1 0 3; told(13..16) = 2 2 1 2; ahead(0..1) = 1 2; office(0..1, 0) = 1 2");
            x.rows("person(0, 0..3) = 5 3 2 2; person(1, 0..3) = 4 4 4 4; person(2, 0..5) = 7 2 3 4 9 2; truly(0) = 3");
            x.rows("undo(2) = 2; told(8) = 1; goBack(1) = 1; goBack(0) = 1; told(6) = 2; told(15) = 1; tear() = 3");
        }
    }

    // ---- promise 4: The letter of the FAULT of the latest kingdom(); NONE

    private static void promise4() {
        Run x = Run.on("fault").rows("fault() = NONE").feed("x").rows("fault() = NONE; kingdom() = -11; fault() = 0; fault() = 0");
        x.feed("k0 1;").rows("fault() = 0; kingdom() = 0; fault() = NONE").feed("k0 1;p").rows("kingdom() = -11; fault() = 6");
        x.rows("day(1) = 1; fault() = 6; kingdom() = 0; fault() = NONE");
        Run last = Run.on("the last letter there can be").feed("k0 1" + " ".repeat(236)).rows("kingdom() = -11; fault() = 240");
        last.feed("k0 1;" + " ".repeat(234) + "x").rows("kingdom() = -11; fault() = 239");
    }

    // ---- promise 5: told

    private static void promise5Whats() {
        Run x = Run.of("told", "k0 1;").rows("told(-1) = OUTSIDE; told(0) = 0; told(16) = 0; told(17) = OUTSIDE");
        x.rows("told(MIN) = OUTSIDE; told(MAX) = OUTSIDE");
        Run.on("told of nothing").rows("told(-1) = OUTSIDE; told(17) = OUTSIDE");
    }

    private static void promise5Least() {
        Run.of("the least kingdom", "k0 1;").rows("told(0..9) = 0 1 0 0 0 0 0 0 0 0; told(10) = NONE; told(11..16) = 0");
    }

    private static void promise5Most() {
        Run x = Run.of("the greatest kingdom", MOST).rows("told(0..9) = 2 9 7 4 12 0 0 0 127 15; told(10) = 1; told(11..16) = 0");
        x.rows("rain(true) = 0; told(7) = 1; day(1) = 1; told(6) = 1; told(8..9) = 0 15; told(12) = 189; told(13) = 1; told(16) = 2");
        x.feed("k").rows("told(5) = 1");
    }

    private static void promise5Nearly() {
        Run.of("nearly of none", "k0 1;").rows("told(10) = NONE");
        Run.of("nearly of one", "k0 1;p1 1 1 1;").rows("told(10) = NONE; day(1) = 1; told(10) = NONE");
        Run.of("nearly of two", "k0 9;p1 1 1 1;p1 1 1 1;").rows("told(10) = 1; day(1) = 1; person(1, 6) = 1; told(10) = 0");
        // 2 is made on day 0, 1 on day 1: of like ones the lesser number
        Run x = Run.of("nearly of three", "k0 9;p9 9 9 9;p1 5 1 1;p5 1 1 1;d0,1;").rows("told(10) = 1; day(1) = 1; person(2, 6) = 1");
        x.rows("told(10) = 0; send(2) = 1; recall(0) = 2; day(1) = 2; person(0..2, 6) = 0 1 1; told(10) = 2");
        // the same, when the greater number is second once more
        x.rows("recall(2) = 2; recall(0) = 3; day(1) = 3; person(0..2, 6) = 0 1 2; told(10) = 1");
    }

    /** How often 0, 1 and 2 were second, and who is the next one behind the first then. */
    private static void promise5NearlyOfThree() {
        int[][] cases = {{0, 0, 0, 1}, {1, 0, 0, 1}, {0, 1, 0, 0}, {0, 0, 1, 0}, {1, 1, 0, 1}, {1, 0, 1, 2}, {0, 1, 1, 2}, {1, 1, 1, 1},
            {2, 1, 0, 1}, {2, 0, 1, 2}, {1, 2, 0, 0}, {0, 2, 1, 2}, {1, 0, 2, 0}, {0, 1, 2, 1}, {2, 1, 1, 1}, {1, 2, 1, 0}, {1, 1, 2, 0},
            {2, 2, 1, 1}, {2, 1, 2, 2}, {1, 2, 2, 2}, {3, 1, 2, 2}, {3, 2, 1, 1}};
        for (int[] times : cases) {
            // 3 goes each day, and is never second
            Run x = Run.of("seconds " + times[0] + " " + times[1] + " " + times[2], "k0 9;p9 0 0 0;p9 0 0 0;p9 0 0 0;p9 0 0 9;");
            for (int p = 0; p < 3; p++) {
                x.rows("effort(0, 1); effort(1, 1); effort(2, 1); effort(" + p + ", 4) = 1");
                for (int i = 0; i < times[p]; i++) {
                    x.rows("day(1); recall(3) = 4");
                }
            }
            x.rows("person(0..2, 6) = " + times[0] + " " + times[1] + " " + times[2] + "; person(3, 6) = 0; told(10) = " + times[3]);
        }
    }

    private static void promise5Rings() {
        Run.of("rings of two", "k0 1;p3 2 1 0;p2 1 3 0;").rows("told(11) = 0");
        Run.of("one ring", "k0 1;p3 2 1 0;p2 1 3 0;p1 3 2 0;").rows("beats(0, 1) = 1; beats(1, 2) = 1; beats(2, 0) = 1; told(11) = 1");
        Run.of("the other way round", "k0 1;p3 2 1 0;p1 3 2 0;p2 1 3 0;").rows("beats(0, 2) = 1; beats(0, 1) = 0; told(11) = 1");
        Run.of("a chain", "k0 1;p3 3 3 0;p2 2 2 0;p1 1 1 0;").rows("told(11) = 0");
        // each is as good as the next one: not better
        Run.of("all alike", "k0 1;p1 1 1 1;p1 1 1 1;p1 1 1 1;").rows("told(11) = 0");
        // 2, 2 and 3 of the three sorts: 12 threes
        Run most = Run.of("seven", "k0 1;p3 2 1 0;p3 2 1 0;p2 1 3 0;p2 1 3 0;p1 3 2 0;p1 3 2 0;p1 3 2 0;").rows("told(11) = 12");
        most.rows("send(6) = 6; send(0) = 5; told(11) = 12; teach(6, 0, 9) = 1; told(11) = 8");
    }

    private static void promise5Brilliant() {
        Run x = Run.of("brilliant", "k0 2;p1 2 3 9;p4 5 6 9;").rows("told(12) = 0; send(0) = 1; told(12) = 6; send(1) = 0; told(12) = 21");
        x.rows("teach(1, 2, 0) = 6; told(12) = 15; recall(1) = 1; told(12) = 6; recall(0) = 2; told(12) = 0; teach(0, 0, 9) = 1");
        x.rows("told(12) = 0");
    }

    private static void promise5Vacant() {
        Run x = Run.of("vacant", "k0 1;p9 9 9 9;p1 1 1 1;d0,1,2;o0;o1;o2;o0;").rows("told(9) = 15; day(1) = 1; told(9) = 6");
        x.rows("recall(0) = 2; day(1) = 2; told(9) = 4; recall(0) = 2; day(1) = 3; told(9) = 0; send(1) = 0; told(9) = 15");
        Run.of("without offices", "k0 1;p1 1 1 1;p1 1 1 1;").rows("told(9) = 0; day(1) = 1; told(9) = 0");
    }

    private static void promise5Counters() {
        Run x = Run.of("counters", TURNS);
        for (int i = 1; i <= 20; i++) {
            x.rows("day(1) = " + i + "; told(6) = " + i + "; told(13) = " + i + "; told(16) = " + i);
        }
        x.rows("day(1) = 21; told(6) = 21; told(13) = 20; told(16) = 21; day(8) = 29; told(16) = 29; day(1) = 30; told(16) = 30");
        x.rows("day(1) = 31; told(6) = 31; told(13) = 20; told(16) = 30");
        for (int i = 1; i <= 6; i++) {
            x.rows("see(0, 0) = " + i + "; told(14) = " + i);
        }
        x.rows("see(0, 0) = FULL; told(14) = 6");
        for (int i = 1; i <= 20; i++) {
            x.rows("write(0, 0) = " + i + "; told(15) = " + i);
        }
        x.rows("write(0, 0) = FULL; told(15) = 20");
    }

    // ---- promise 6: person

    private static void promise6() {
        Run x = Run.of("seven persons", MOST).rows("person(-1, 0) = UNKNOWN; person(0, 0) = 9; person(6, 0) = 9; person(7, 0) = UNKNOWN");
        x.rows("person(MIN, 0) = UNKNOWN; person(MAX, 0) = UNKNOWN; person(6, -1) = OUTSIDE; person(6, 0..7) = 9 9 9 9 5 0 0 0");
        x.rows("person(6, 8) = OUTSIDE; person(6, MIN) = OUTSIDE; person(6, MAX) = OUTSIDE; person(7, 8) = UNKNOWN");
        x.rows("person(-1, -1) = UNKNOWN");
        Run.of("no persons", "k0 1;").rows("person(0, 0) = UNKNOWN; person(NONE, 0) = UNKNOWN; person(0, 8) = UNKNOWN");
        Run.of("two persons", "k0 1;p0 0 0 0;p1 1 1 1;").rows("person(1, 0) = 1; person(2, 0) = UNKNOWN; person(6, 0) = UNKNOWN");
        Run held = Run.of("all offices", "k0 1;p9 9 9 9;p0 0 0 0;o0;o0;o0;o0;").rows("person(1, 7) = 0; day(1) = 1; person(1, 7) = 15");
        held.rows("person(1, 6) = 1; person(0, 7) = 0; send(1) = 0; person(1, 7) = 0; person(1, 6) = 1");
    }

    private static void promise6Coast() {
        Run nine = Run.of("nine days", "k0 9;p1 1 1 1;").rows("person(0, 5) = 0; day(1) = 1; person(0, 5) = 9; day(1) = 2");
        nine.rows("person(0, 5) = 8; day(7) = 9; person(0, 5) = 1; told(8) = 0; day(1) = 10; person(0, 5) = 0; told(8) = 1");
        Run one = Run.of("one day", "k0 1;p1 1 1 1;").rows("day(1) = 1; person(0, 5) = 1; told(8) = 0; day(1) = 2; person(0, 5) = 0");
        one.rows("told(8) = 1; day(1) = 3; person(0, 5) = 1");
    }

    // ---- promise 7: office

    private static void promise7() {
        Run x = Run.of("four offices", MOST).rows("office(-1, 0) = UNKNOWN; office(0..3, 0) = 0 1 2 0; office(4, 0) = UNKNOWN");
        x.rows("office(MIN, 0) = UNKNOWN; office(MAX, 0) = UNKNOWN; office(3, -1) = OUTSIDE; office(3, 0..1) = 0 NONE");
        x.rows("office(3, 2) = OUTSIDE; office(3, MIN) = OUTSIDE; office(3, MAX) = OUTSIDE; office(4, 2) = UNKNOWN; office(-1, -1) = UNKNOWN");
        Run.of("no office", "k0 1;p1 1 1 1;").rows("office(0, 0) = UNKNOWN; office(NONE, 0) = UNKNOWN; office(0, 2) = UNKNOWN");
        Run.of("one office", "k0 1;o2;").rows("office(0, 0..1) = 2 NONE; office(1, 0) = UNKNOWN");
    }

    // ---- promise 8: The KIND of the CONTEST behind n DAYS (0 .. 60). OUTSIDE, NOT: no KINGDOM

    private static void promise8() {
        Run x = Run.of("ahead", "k0 1;d2,1;").rows("ahead(-1) = OUTSIDE; ahead(0..1) = 2 1; ahead(59..60) = 1 2; ahead(61) = OUTSIDE");
        x.rows("ahead(MIN) = OUTSIDE; ahead(MAX) = OUTSIDE");
        Run none = Run.on("ahead without a kingdom").rows("ahead(0) = NOT; ahead(60) = NOT; ahead(-1) = OUTSIDE; ahead(61) = OUTSIDE");
        none.rows("ahead(MIN) = OUTSIDE; ahead(MAX) = OUTSIDE");
        Run.of("ahead in a kingdom without anybody", "k0 1;").rows("ahead(0) = 0; ahead(60) = 0; ahead(61) = OUTSIDE");
    }

    private static void promise8WrapsRound() {
        Run x = Run.of("twelve in turn", "k0 1;d0,0,1,1,2,2,0,1,2,2,1,0;").rows("ahead(0..12) = 0 0 1 1 2 2 0 1 2 2 1 0 0");
        x.rows("ahead(48..60) = 0 0 1 1 2 2 0 1 2 2 1 0 0; day(11) = 11; ahead(0..3) = 0 0 0 1; day(1) = 12; ahead(0..3) = 0 0 1 1");
        x.rows("day(30) = 42; ahead(0..3) = 0 1 2 2; undo(30) = 12; ahead(0..3) = 0 0 1 1");
        Run five = Run.of("five in turn", "k0 1;d0,1,2,1,1;").rows("ahead(0..5) = 0 1 2 1 1 0; ahead(59..60) = 1 0; day(1) = 1");
        five.rows("ahead(0..5) = 1 2 1 1 0 1; day(29) = 30; ahead(0..5) = 0 1 2 1 1 0");
        Run.of("one in turn", "k0 1;d1;").rows("ahead(0..2) = 1; ahead(60) = 1; day(1) = 1; ahead(0) = 1");
    }

    // ---- promise 9: Of THE LOG, 0 the latest; NONE (no such entry, too). OUTSIDE (what)

    private static void promise9() {
        Run x = Run.of("logged", TURNS).rows("logged(0, 0..3) = NONE; logged(0, -1) = OUTSIDE; logged(0, 4) = OUTSIDE; day(1) = 1");
        x.rows("logged(0, 0..3) = 0 0 0 1; logged(1, 0..3) = NONE; logged(-1, 0..3) = NONE; logged(MIN, 0) = NONE; logged(MAX, 0) = NONE");
        x.rows("logged(0, -1) = OUTSIDE; logged(0, 4) = OUTSIDE; logged(0, MIN) = OUTSIDE; logged(0, MAX) = OUTSIDE");
        x.rows("logged(1, 4) = OUTSIDE; logged(-1, -1) = OUTSIDE; logged(20, 4) = OUTSIDE; logged(MIN, 4) = OUTSIDE");
        Run.on("logged without a kingdom").rows("logged(0, 0..3) = NONE; logged(0, 4) = OUTSIDE; logged(0, -1) = OUTSIDE");
    }

    private static void promise9TheLatestTwenty() {
        Run x = Run.of("the log", TURNS).rows("day(19) = 19; told(13) = 19; logged(0, 0) = 18; logged(18, 0) = 0; logged(19, 0) = NONE");
        x.rows("day(1) = 20; told(13) = 20; logged(0, 0) = 19; logged(19, 0..1) = 0 0; logged(20, 0..3) = NONE");
        x.rows("day(1) = 21; told(13) = 20; logged(0, 0) = 20; logged(19, 0..1) = 1 1; logged(20, 0..3) = NONE; logged(21, 0) = NONE");
        x.rows("day(19) = 40; told(13) = 20; logged(0, 0..1) = 39 1; logged(19, 0..1) = 20 0; logged(20, 0) = NONE; day(1) = 41");
        x.rows("logged(0, 0..1) = 40 0; logged(1, 0..1) = 39 1; logged(19, 0..1) = 21 1; logged(20, 0) = NONE");
        // what has fallen out is there again when days are undone, as the log was ahead of them
        x.rows("undo(21) = 20; told(13) = 20; logged(0, 0) = 19; logged(19, 0) = 0; undo(9) = 11; told(13) = 11; logged(10, 0) = 0");
        x.rows("logged(11, 0) = NONE");
    }

    private static void promise9WithoutAContest() {
        Run alone = Run.of("one alone", "k0 2;p1 1 1 1;d2;").rows("day(1) = 1; logged(0, 0..3) = 0 2 0 NONE; day(2) = 3; told(13) = 1");
        alone.rows("logged(1, 0) = NONE; day(1) = 4; told(13) = 2; logged(0, 0..3) = 3 2 0 NONE; logged(1, 0) = 0");
        Run.of("nobody", "k0 1;").rows("day(30) = 30; told(13) = 0; logged(0, 0..3) = NONE");
        // all who have the most mark are first together: the least of them is kept
        Run like = Run.of("all first but 0", "k2 1;p0 0 0 0;p1 1 1 1;p1 1 1 1;").rows("day(1) = 1; logged(0, 0..3) = 0 0 1 0");
        like.rows("day(1) = 2; logged(0, 0..3) = 1 0 0 NONE");
    }
}
