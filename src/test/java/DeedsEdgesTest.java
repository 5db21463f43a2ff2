import java.util.ArrayList;
import java.util.Arrays;
import java.util.List;

/** Section 2, and promises 10 to 17, at their boundaries. */
public final class DeedsEdgesTest {
    /** 0 goes, then 1, by turns; 2 is made each day. */
    private static final String TURNS = "k0 1;p9 9 9 9;p8 8 8 8;p1 1 1 1;o0;";
    private static final int FIRST_DRAW = 12345;

    public static void main(String[] args) {
        atFirst();
        likeMarks();
        nobodyIsSecond();
        nobodyIsAtCourt();
        giftsDownToNone();
        officesHeldAndLost();
        daysAtTheCoast();
        kindsOfDays();
        promise10();
        promise10And16Full();
        promise11();
        promise12();
        promise13();
        promise14();
        promise15();
        promise16();
        promise16Draws();
        promise16WithoutPersons();
        promise16Wraps();
        promise17();
        promise17ThirtyAtMost();
        promise17InTurn();
        promise17EachDeedIsOne();
        promise17SinceTheTextOrImage();
        promise17RefusedOnesAreNone();
        promise17AllOfSection2();
        Due.end("DeedsEdgesTest");
    }

    // ---- section 2: EFFORT (0 .. 9; 5 at first), at COURT at first, there is no RAIN at first

    private static void atFirst() {
        Run x = Run.of("at first", "k0 9;p9 0 1 9;o0;").rows("person(0, 4..7) = 5 0 0 0; told(7..9) = 0 1 1; office(0, 1) = NONE");
        x.rows("mark(0, 0..2) = 54 9 14; told(6) = 0; told(13) = 0");
    }

    // ---- of like MARKS by LAW

    private static void likeMarks() {
        String like = "p1 0 0 4;p2 0 0 0;p1 0 0 4;p0 0 0 9;";
        // 9 9 9 9 by efforts 5, and 2 has 9, 10 or 8 by its own
        Run law0 = Run.of("law 0", "k0 1;p1 0 0 4;p0 0 0 9;p1 0 0 4;").rows("wouldBe(0, 0..1) = 1 1; place(0..2, 0) = 0 1 2");
        law0.rows("effort(2, 6) = 5; wouldBe(0, 0..1) = 4 0; effort(2, 4) = 6; wouldBe(0, 0..1) = 1 1; place(2, 0) = 2");
        Run law1 = Run.of("law 1", "k1 1;p1 0 0 4;p0 0 0 9;p1 0 0 4;").rows("wouldBe(0, 0..1) = 2 0; place(0..2, 0) = 1 0 2");
        law1.rows("effort(2, 6) = 5; wouldBe(0, 0..1) = 4 1; effort(2, 4) = 6; wouldBe(0, 0..1) = 2 0");
        Run law2 = Run.of("law 2", "k2 1;p1 0 0 4;p0 0 0 9;p1 0 0 4;").rows("wouldBe(0, 0..1) = 7 NONE; place(0..2, 0) = 0");
        law2.rows("effort(2, 6) = 5; wouldBe(0, 0..1) = 4 0; place(0..2, 0) = 1 2 0; effort(2, 4) = 6; wouldBe(0, 0..1) = 3 2");
        // 9 10 9 9: like ones behind the first, too
        Run.of("law 0 behind the first", "k0 1;" + like).rows("place(0..3, 0) = 1 0 2 3; wouldBe(0, 1) = 0");
        Run.of("law 1 behind the first", "k1 1;" + like).rows("place(0..3, 0) = 2 0 3 1; wouldBe(0, 1) = 3");
        Run.of("law 2 behind the first", "k2 1;" + like).rows("place(0..3, 0) = 1 0 2 3; wouldBe(0, 1) = 0");
    }

    // ---- The next one behind is SECOND (NONE, if there is none)

    private static void nobodyIsSecond() {
        Run alone = Run.of("one alone", "k0 2;p5 5 5 5;o0;").rows("wouldBe(0, 0..1) = 1 NONE; day(1) = 1; person(0, 0..7) = 5 5 5 5 5 2 0 0");
        alone.rows("office(0, 1) = NONE; logged(0, 3) = NONE; told(13) = 1");
        Run all = Run.of("all first", "k2 2;p5 5 5 5;p5 5 5 5;o0;").rows("day(1) = 1; person(0..1, 5) = 2; person(0..1, 6) = 0");
        all.rows("person(0..1, 0) = 5; office(0, 1) = NONE; logged(0, 2..3) = 0 NONE");
        Run two = Run.of("two by law 0", "k0 2;p5 5 5 5;p5 5 5 5;o0;").rows("day(1) = 1; person(0..1, 5) = 2 0; person(0..1, 6) = 0 1");
        two.rows("person(0..1, 0) = 5 4; office(0, 1) = 1; logged(0, 2..3) = 0 1");
    }

    // ---- the CONTEST of the KIND of that day, if anybody is at COURT

    private static void nobodyIsAtCourt() {
        Run x = Run.of("nobody at court", "k0 3;p5 5 5 5;p4 4 4 4;o0;").rows("send(0) = 1; send(1) = 0; wouldBe(0, 0..1) = 0 NONE");
        x.rows("day(1) = 1; told(13) = 0; person(0..1, 5) = 2; person(0..1, 6) = 0; day(2) = 3; told(8) = 3; told(13) = 0");
        x.rows("day(1) = 4; told(13) = 1; logged(0, 0..3) = 3 0 0 1");
        Run.of("no persons", "k0 1;o0;").rows("day(1) = 1; day(30) = 31; told(13) = 0; office(0, 1) = NONE; told(16) = 30");
    }

    // ---- its GIFT in that KIND is 1 less (0 at least)

    private static void giftsDownToNone() {
        Run x = Run.of("gifts", "k0 1;p9 9 9 9;p9 9 9 9;p2 2 2 0;").rows("day(1) = 1; person(1, 0..2) = 8 9 9; recall(0) = 3; send(1) = 2");
        x.rows("day(1) = 2; person(2, 0..2) = 1 2 2; day(1) = 3; person(2, 0..2) = 0 2 2; person(2, 6) = 2; recall(0)");
        x.rows("send(1); day(1) = 4; person(2, 0..2) = 0 2 2; person(2, 6) = 3; person(0, 0..2) = 9; teach(2, 0, 1) = 0");
        x.rows("recall(0); send(1); day(1) = 5; person(2, 0) = 0; person(2, 6) = 4");
    }

    // ---- An OFFICE is held by NONE at first; who goes to THE COAST loses all OFFICES

    private static void officesHeldAndLost() {
        Run x = Run.of("offices", "k0 1;p9 0 9 0;p5 5 0 0;p1 9 0 0;d0,1,0,2;o0;o1;o0;o2;").rows("office(0..3, 1) = NONE; day(1) = 1");
        x.rows("office(0..3, 1) = 1 NONE 1 NONE; person(1, 7) = 5");
        // kind 1: 2 goes, 1 is made, 0 comes back
        x.rows("day(1) = 2; office(0..3, 1) = 1 1 1 NONE; person(1, 7) = 7; recall(2) = 3; effort(0, 0) = 5; person(1, 0..1) = 4 4");
        // kind 0: 1 goes first and loses all of them, 2 is made: of kind 0 alone
        x.rows("day(1) = 3; person(1, 5) = 1; office(0..3, 1) = 2 NONE 2 NONE; person(1, 7) = 0; person(2, 7) = 5; told(9) = 10");
        // who comes back has none of them again
        x.rows("recall(1) = 3; office(0..3, 1) = 2 NONE 2 NONE; effort(0, 5) = 0; effort(1, 0) = 5; day(1) = 4; logged(0, 1..3) = 2 0 1");
        x.rows("office(0..3, 1) = 2 NONE 2 1; send(2) = 1; office(0..3, 1) = NONE NONE NONE 1; recall(2) = 2; office(0..3, 1) = NONE NONE NONE 1");
    }

    // ---- each who was at THE COAST ahead of it has one day less there (at COURT again with none)

    private static void daysAtTheCoast() {
        for (int term = 1; term <= 9; term++) {
            Run x = Run.of("a term of " + term, "k0 " + term + ";p9 0 0 0;p0 0 0 0;").rows("send(1) = 1; day(1) = 1");
            x.rows("person(0, 5) = " + term + "; person(1, 5) = " + (term - 1));
            if (term > 1) {
                x.rows("day(" + (term - 1) + ") = " + term);
            }
            x.rows("person(0..1, 5) = 1 0; told(8) = 2; told(13) = 1; day(1) = " + (term + 1));
            x.rows("person(0..1, 5) = 0 " + term + "; told(8) = 1; told(13) = 2; logged(0, 0..3) = " + term + " 0 1 NONE");
        }
        Run sent = Run.of("sent by a deed", "k0 2;p9 0 0 0;p0 0 0 0;p0 0 0 0;").rows("send(2) = 2; person(2, 5) = 2; day(1) = 1");
        sent.rows("person(0..2, 5) = 2 0 1; day(1) = 2; person(0..2, 5) = 1 2 0; told(8) = 4");
    }

    // ---- (DAY k: the number of k left over by how many)

    private static void kindsOfDays() {
        Run x = Run.of("kinds", "k0 1;p1 1 1 1;p1 1 1 1;p1 1 1 1;d0,0,1,1,2,2,0,1,2,2,1,0;").rows("day(1) = 1; logged(0, 0..1) = 0 0");
        x.rows("day(10) = 11; logged(0, 0..1) = 10 1; day(1) = 12; logged(0, 0..1) = 11 0; day(1) = 13; logged(0, 0..1) = 12 0");
        x.rows("day(1) = 14; logged(0, 1) = 0; day(1) = 15; logged(0, 1) = 1; logged(14, 0..1) = 0 0; logged(10, 0..1) = 4 2");
        // a day without a contest takes its kind with it
        Run y = Run.of("a day without a contest", "k0 1;p1 1 1 1;d0,1,2;").rows("day(3) = 3; told(13) = 2; logged(0, 0..1) = 2 2");
        y.rows("logged(1, 0..1) = 0 0; day(2) = 5; logged(0, 0..1) = 4 1");
    }

    // ---- promise 10: n DAYS (1 .. 30): DAYS. OUTSIDE, NOT: no KINGDOM; FULL: DAYS are above 90000

    private static void promise10() {
        Run x = Run.of("day", TURNS).rows("day(0) = OUTSIDE; day(-1) = OUTSIDE; day(31) = OUTSIDE; day(MIN) = OUTSIDE; day(MAX) = OUTSIDE");
        x.rows("told(6) = 0; told(13) = 0; told(16) = 0; day(1) = 1; day(30) = 31; told(6) = 31; day(29) = 60; logged(0, 0) = 59");
        Run none = Run.on("day without a kingdom").rows("day(1) = NOT; day(30) = NOT; day(0) = OUTSIDE; day(31) = OUTSIDE; told(6) = 0");
        none.feed("x").rows("kingdom() = -11; day(1) = NOT");
        Run.of("day in a kingdom without anybody", "k0 1;").rows("day(30) = 30; day(0) = OUTSIDE");
    }

    /**
     * In 512 calls there are at most 15,360 days, and behind these the document leaves all answers
     * free. The class counts no calls, so its own way to that bound can be looked at here.
     */
    private static void promise10And16Full() {
        SecondBest x = Due.of(TURNS);
        for (int i = 0; i < 3000; i++) {
            x.day(30);
        }
        Due.due("90000 days", x.told(6), 90000);
        Due.due("90000 is not above: day", x.day(1), 90001);
        Due.due("above 90000: day", x.day(1), Due.FULL);
        Due.due("above 90000: drift", x.drift(1), Due.FULL);
        Due.due("outside ahead of full: day", x.day(31), Due.OUTSIDE);
        Due.due("outside ahead of full: drift", x.drift(0), Due.OUTSIDE);
        Due.due("no day, no draw", x.seed(0), 0);
        Due.due("days as they were", x.told(6), 90001);
        Due.due("undone", x.undo(1), 90000);
        Due.due("90000 is not above: drift", x.drift(30), 90030);
        Due.due("above 90000 again", x.drift(30), Due.FULL);
        Due.due("above 90000 again: day", x.day(30), Due.FULL);
        Due.due("the log of the last day", x.logged(0, 0), 90029);
        Due.due("other deeds are free", x.rain(true) < 0 ? 0 : 1, 1);
    }

    // ---- promise 11: EFFORT becomes e (0 .. 9): what it was. UNKNOWN, OUTSIDE

    private static void promise11() {
        Run x = Run.of("effort", TURNS).rows("effort(0, -1) = OUTSIDE; effort(0, 10) = OUTSIDE; effort(0, MIN) = OUTSIDE; effort(0, MAX) = OUTSIDE");
        x.rows("effort(-1, 0) = UNKNOWN; effort(3, 0) = UNKNOWN; effort(MIN, 0) = UNKNOWN; effort(MAX, 0) = UNKNOWN");
        x.rows("effort(3, 10) = UNKNOWN; effort(-1, -1) = UNKNOWN; person(0..2, 4) = 5; told(16) = 0");
        x.rows("effort(0, 0) = 5; effort(0, 9) = 0; effort(2, 9) = 5; effort(2, 0) = 9; effort(2, 0) = 0; person(0..2, 4) = 9 5 0");
        x.rows("mark(0, 0) = 90; mark(2, 0) = 1; told(16) = 5; send(0) = 2; effort(0, 3) = 9; person(0, 4) = 3");
        Run.of("effort without persons", "k0 1;").rows("effort(0, 0) = UNKNOWN; effort(0, 10) = UNKNOWN");
        Run.of("effort of the seventh", "k0 1;" + "p0 0 0 0;".repeat(7)).rows("effort(6, 0) = 5; effort(7, 0) = UNKNOWN");
    }

    // ---- promise 12: RAIN (is), or dry: 1 there was, 0 not. NOT: no KINGDOM

    private static void promise12() {
        Run x = Run.of("rain", "k0 1;p0 0 0 9;p0 0 0 1;p0 0 0 0;p9 0 0 9;p0 0 0 2;").rows("rain(false) = 0; mark(0..4, 0) = 9 1 0 54 2");
        // half of it, cut
        x.rows("rain(true) = 0; mark(0..4, 0) = 4 0 0 49 1; person(0..4, 3) = 9 1 0 9 2; rain(true) = 1; rain(false) = 1");
        x.rows("mark(0..4, 0) = 9 1 0 54 2; told(7) = 0; rain(true) = 0; day(1) = 1; told(7) = 1; told(16) = 6");
        Run.on("rain without a kingdom").rows("rain(true) = NOT; told(7) = 0; rain(false) = NOT; told(16) = 0");
        Run.of("rain on nobody", "k0 1;").rows("rain(true) = 0; told(7) = 1; told(16) = 1");
    }

    // ---- promise 13: TAUGHT (KIND 0 .. 2; v 0 .. 9): what the GIFT was. UNKNOWN, OUTSIDE

    private static void promise13() {
        Run x = Run.of("teach", "k0 1;p1 2 3 4;p4 5 6 7;").rows("teach(0, -1, 0) = OUTSIDE; teach(0, 3, 0) = OUTSIDE; teach(0, MIN, 0) = OUTSIDE");
        x.rows("teach(0, MAX, 0) = OUTSIDE; teach(0, 0, -1) = OUTSIDE; teach(0, 0, 10) = OUTSIDE; teach(0, 0, MIN) = OUTSIDE");
        x.rows("teach(0, 0, MAX) = OUTSIDE; teach(-1, 0, 0) = UNKNOWN; teach(2, 0, 0) = UNKNOWN; teach(MIN, 0, 0) = UNKNOWN");
        x.rows("teach(MAX, 0, 0) = UNKNOWN; teach(2, 3, 0) = UNKNOWN; teach(2, 0, 10) = UNKNOWN; teach(-1, -1, -1) = UNKNOWN");
        x.rows("teach(0, 3, 10) = OUTSIDE; person(0, 0..3) = 1 2 3 4; person(1, 0..3) = 4 5 6 7; told(16) = 0");
        x.rows("teach(0, 0, 0) = 1; teach(0, 0, 9) = 0; teach(1, 2, 9) = 6; teach(1, 2, 0) = 9; teach(1, 0, 0) = 4; teach(0, 2, 9) = 3");
        x.rows("person(0, 0..3) = 9 2 9 4; person(1, 0..3) = 0 5 0 7; told(16) = 6; send(0) = 1; teach(0, 1, 9) = 2; told(12) = 27");
    }

    // ---- promise 14: SENT: how many are at COURT yet. UNKNOWN, NOT: it is at THE COAST

    private static void promise14() {
        Run x = Run.of("send", "k0 9;" + "p1 1 1 1;".repeat(7)).rows("send(-1) = UNKNOWN; send(7) = UNKNOWN; send(MIN) = UNKNOWN; send(MAX) = UNKNOWN");
        x.rows("told(8) = 127; told(16) = 0; send(6) = 6; person(6, 5) = 9; send(6) = NOT; told(8) = 63; send(0) = 5; send(0) = NOT");
        x.rows("send(1..5) = 4 3 2 1 0; told(8) = 0; send(0..6) = NOT; send(7) = UNKNOWN; told(16) = 7; person(0..6, 5) = 9");
        // not even for the days that it lacks
        x.rows("day(8) = 8; person(0, 5) = 1; send(0) = NOT; person(0, 5) = 1; day(1) = 9; told(8) = 127; send(0) = 6");
        Run.of("send without persons", "k0 1;").rows("send(0) = UNKNOWN; send(NONE) = UNKNOWN");
    }

    // ---- promise 15: CALLED back: how many are at COURT. UNKNOWN, NOT: it is at COURT

    private static void promise15() {
        Run x = Run.of("recall", "k0 9;" + "p1 1 1 1;".repeat(7)).rows("recall(-1) = UNKNOWN; recall(7) = UNKNOWN; recall(MIN) = UNKNOWN");
        x.rows("recall(MAX) = UNKNOWN; recall(0..6) = NOT; told(16) = 0; send(0..6) = 6 5 4 3 2 1 0; recall(6) = 1; person(6, 5) = 0");
        x.rows("recall(6) = NOT; recall(0) = 2; recall(0) = NOT; recall(1..5) = 3 4 5 6 7; told(8) = 127; recall(7) = UNKNOWN; told(16) = 14");
        Run last = Run.of("called back on the last day", "k0 1;p1 1 1 1;").rows("day(1) = 1; person(0, 5) = 1; recall(0) = 1; day(1) = 2");
        last.rows("person(0, 5) = 1; told(13) = 2; day(1) = 3; person(0, 5) = 0; recall(0) = NOT");
        Run.of("recall without persons", "k0 1;").rows("recall(0) = UNKNOWN; recall(NONE) = UNKNOWN");
    }

    // ---- promise 16: n DAYS BY DRAWS (1 .. 30): DAYS. OUTSIDE, NOT: no KINGDOM; FULL

    private static void promise16() {
        Run x = Run.of("drift", TURNS).rows("drift(0) = OUTSIDE; drift(-1) = OUTSIDE; drift(31) = OUTSIDE; drift(MIN) = OUTSIDE");
        x.rows("drift(MAX) = OUTSIDE; seed(0) = 0; told(6) = 0; told(16) = 0; person(0..2, 4) = 5; drift(1) = 1; drift(30) = 31; told(16) = 30");
        Run none = Run.on("drift without a kingdom").rows("drift(1) = NOT; drift(30) = NOT; drift(0) = OUTSIDE; drift(31) = OUTSIDE");
        none.rows("seed(0) = 0; told(6) = 0");
    }

    private static long drawn(long seed) {
        return (seed * 1103515245L + 12345L) % 2147483648L;
    }

    /** Three draws a day: who, which effort, whether it rains. */
    private static void promise16Draws() {
        for (int persons = 1; persons <= 7; persons++) {
            Run x = Run.of("draws of " + persons, "k0 1;" + "p0 0 0 0;".repeat(persons));
            int[] efforts = new int[persons];
            Arrays.fill(efforts, 5);
            long seed = 0;
            for (int day = 1; day <= 12; day++) {
                seed = drawn(seed);
                int who = (int) (seed / 65536 % persons);
                seed = drawn(seed);
                efforts[who] = (int) (seed / 65536 % 10);
                seed = drawn(seed);
                int rain = seed / 65536 % 4 == 0 ? 1 : 0;
                x.rows("drift(1) = " + day + "; told(7) = " + rain + "; seed(" + seed + ") = " + seed);
                for (int p = 0; p < persons; p++) {
                    x.rows("person(" + p + ", 4) = " + efforts[p]);
                }
            }
        }
    }

    private static void promise16WithoutPersons() {
        Run x = Run.of("drift without persons", "k0 1;").rows("drift(1) = 1; seed(0) = " + FIRST_DRAW + "; told(7) = 1; drift(2) = 3");
        // 12345 / 65536 is 0: rain; 1406932606 / 65536 is 21468, too, 654583775 / 65536 is 9988, too
        x.rows("seed(654583775) = 1406932606; told(7) = 1; drift(1) = 4; told(7) = 0; seed(0) = 1449466924; told(13) = 0");
        // it is dry behind rain, and rains behind dry weather, by the draw alone
        Run y = Run.of("rain by draws", "k0 1;").rows("rain(true) = 0; seed(654583775) = 0; drift(1) = 1; told(7) = 0; seed(0)");
        y.rows("rain(false) = 0; drift(1) = 2; told(7) = 1; seed(0) = 12345; rain(true) = 1; drift(1) = 3; told(7) = 1");
    }

    private static void promise16Wraps() {
        int[] seeds = {0, 1, 2, 65535, 65536, 1073741823, 1073741824, 2147483646, 2147483647};
        for (int seed : seeds) {
            Run x = Run.of("a draw from " + seed, "k0 1;").rows("seed(" + seed + ") = 0; drift(1) = 1");
            x.rows("told(7) = " + (drawn(seed) / 65536 % 4 == 0 ? 1 : 0) + "; seed(0) = " + drawn(seed));
        }
        Run.of("a draw from the greatest", "k0 1;").rows("seed(MAX) = 0; drift(1) = 1; seed(0) = 1043980748");
    }

    // ---- promise 17: The n latest (1 .. 30) are undone: DAYS. OUTSIDE, NOT: not so many

    private static void promise17() {
        Run x = Run.of("undo", TURNS).rows("undo(0) = OUTSIDE; undo(-1) = OUTSIDE; undo(31) = OUTSIDE; undo(MIN) = OUTSIDE; undo(MAX) = OUTSIDE");
        x.rows("undo(1) = NOT; undo(30) = NOT; day(2) = 2; undo(3) = NOT; undo(31) = OUTSIDE; undo(0) = OUTSIDE; told(6) = 2; told(16) = 2");
        x.rows("undo(1) = 1; told(16) = 1; undo(2) = NOT; undo(1) = 0; told(16) = 0; undo(1) = NOT; day(2) = 2; undo(2) = 0; undo(1) = NOT");
        Run.on("undo without a kingdom").rows("undo(1) = NOT; undo(30) = NOT; undo(0) = OUTSIDE; undo(31) = OUTSIDE");
    }

    private static void promise17ThirtyAtMost() {
        Run x = Run.of("29 deeds", TURNS).rows("day(29) = 29; told(16) = 29; undo(30) = NOT; told(6) = 29; undo(29) = 0; told(16) = 0");
        x.rows("day(30) = 30; told(16) = 30; undo(31) = OUTSIDE; undo(30) = 0; undo(1) = NOT");
        Run y = Run.of("31 deeds", TURNS).rows("day(30) = 30; day(1) = 31; told(16) = 30; undo(30) = 1; told(16) = 0; undo(1) = NOT; told(6) = 1");
        y.rows("logged(0, 0) = 0; told(13) = 1");
        Run z = Run.of("31 deeds in two parts", TURNS).rows("day(30) = 30; rain(true) = 0; undo(1) = 30; told(16) = 29; undo(30) = NOT");
        z.rows("undo(29) = 1; undo(1) = NOT");
    }

    /** The same places are used again and again: what is undone is what was there, however many there were. */
    private static void promise17InTurn() {
        Run x = Run.of("in turn", TURNS);
        List<Integer> was = new ArrayList<>();
        int effort = 5;
        int step = 0;
        for (int round = 0; round < 6; round++) {
            for (int i = 0; i < 17 + round; i++) {
                was.add(effort);
                int e = (step * 7 + round) % 10;
                x.rows("effort(0, " + e + ") = " + effort);
                effort = e;
                step++;
            }
            int n = 9 + 2 * round;
            int can = Math.min(30, was.size());
            x.rows("told(16) = " + can + "; undo(" + n + ") = 0; told(16) = " + (can - n));
            while (was.size() > 30) {
                was.remove(0);
            }
            for (int i = 0; i < n; i++) {
                effort = was.remove(was.size() - 1);
            }
            x.rows("person(0, 4) = " + effort);
        }
    }

    private static void promise17EachDeedIsOne() {
        Run x = Run.of("deeds", TURNS).rows("effort(0, 5) = 5; told(16) = 1; rain(false) = 0; told(16) = 2; teach(0, 0, 9) = 9; told(16) = 3");
        x.rows("send(0) = 2; told(16) = 4; recall(0) = 3; told(16) = 5; day(3) = 3; told(16) = 8; drift(3) = 6; told(16) = 11");
        // no deeds: what is asked, tried, seen, written, torn, the seed, and what is fed
        x.rows("see(0, 0); write(0, 0); tear(); seed(5); feed(107); holds(0, 60); win(0, 0, 60); restless(0); letWin(2, 0, 0); judge()");
        x.rows("tryNext(); truly(0); told(16) = 11; undo(3) = 3; told(16) = 8; undo(3) = 0; told(16) = 5; undo(5) = 0; told(16) = 0");
    }

    private static void promise17SinceTheTextOrImage() {
        Run x = Run.of("since the text", TURNS).rows("day(3) = 3").feed("k0 1;").rows("told(16) = 3; kingdom() = 0; told(16) = 0; undo(1) = NOT");
        x.rows("day(1) = 1; undo(2) = NOT; undo(1) = 0");
        Run.of("since a fault", TURNS).rows("day(3) = 3").feed("k0 1").rows("kingdom() = -11; told(16) = 3; undo(3) = 0");
        Run z = Run.of("since the image", TURNS).rows("day(3) = 3; keep(0) = 1; told(16) = 0; undo(1) = NOT; told(6) = 3; day(2) = 5");
        z.rows("undo(3) = NOT; undo(2) = 3; day(4) = 7; goBack(0) = 1; told(16) = 0; undo(1) = NOT; told(6) = 3; rain(true) = 0; undo(2) = NOT");
        z.rows("undo(1) = 3; told(7) = 0; day(1) = 4; goBack(1) = NOT; keep(2) = UNKNOWN; goBack(2) = UNKNOWN; told(16) = 1; undo(1) = 3");
    }

    private static void promise17RefusedOnesAreNone() {
        Run x = Run.of("refused", TURNS).rows("day(1) = 1; day(0); day(31); effort(3, 0); effort(0, 10); teach(3, 0, 0); teach(0, 3, 0)");
        x.rows("teach(0, 0, 10); send(3); send(0) = NOT; recall(3); recall(1) = NOT; drift(0); drift(31); undo(0); undo(31); undo(2) = NOT");
        x.rows("told(16) = 1; undo(1) = 0; told(6) = 0");
    }

    /** GIFTS, too; THE SEED, what is SEEN and THE BOOK are not of section 2. */
    private static void promise17AllOfSection2() {
        Run x = Run.of("all of section 2", TURNS).rows("day(1) = 1; seed(654583775) = 0; see(0, 0) = 1; write(0, 2) = 1; day(1) = 2; drift(1) = 3");
        x.rows("rain(true); effort(2, 8); teach(0, 2, 1); send(2); see(0, 1) = 2; write(0, 1) = 2; undo(4) = 3; undo(1) = 2; undo(1) = 1");
        x.rows("person(0, 0..7) = 9 9 9 9 5 1 0 0; person(1, 0..7) = 7 8 8 8 5 0 1 1; person(2, 0..7) = 1 1 1 1 5 0 0 0; office(0, 1) = 1");
        x.rows("told(6..9) = 1 0 6 0; told(13) = 1; logged(0, 0..3) = 0 0 0 1; told(14..15) = 2; seed(0) = 1109335178; truly(0) = 0; judge() = 0");
        x.rows("undo(1) = 0; person(1, 0..7) = 8 8 8 8 5 0 0 0; person(0, 5) = 0; told(13) = 0; logged(0, 0) = NONE; office(0, 1) = NONE");
        x.rows("tear() = 4");
    }
}
