/** Promises 18 to 29, and what section 3 says of them, at their boundaries. */
public final class TriedEdgesTest {
    /** As many persons and offices as there may be; the marks in kind 0 are 45, 40, 35, 30, 25, 20, 15. */
    private static final String SEVEN = "k0 9;p9 0 0 0;p8 0 0 0;p7 0 0 0;p6 0 0 0;p5 0 0 0;p4 0 0 0;p3 0 0 0;o0;o1;o2;o0;";
    /** Of these 0 has the marks 0 to 9, 1 has 9, 2 has 45. */
    private static final String JUST = "k0 1;p1 0 0 0;p0 0 0 9;p9 0 0 0;o0;";
    /** The same, but now 1 has the marks 0 to 9, and of like ones the lesser number is first. */
    private static final String NOT_JUST = "k0 1;p0 0 0 9;p1 0 0 0;p9 0 0 0;o0;";

    public static void main(String[] args) {
        promise18();
        promise19();
        promise19AllFirst();
        promise20();
        promise20Nobody();
        promise21();
        promise21AsDone();
        promise22();
        promise22LeastAndMost();
        promise23();
        promise24();
        promise24FewestAndLeast();
        promise25();
        promise25LeastEffort();
        promise25AsDone();
        promise26();
        promise27();
        promise28();
        promise29();
        promise29Cut();
        nothingChanges();
        Due.end("TriedEdgesTest");
    }

    /** What each call of a person and a kind refuses, in the document's order. */
    private static void personAndKind(String name, String more) {
        Run x = Run.of(name, SEVEN);
        for (String p : new String[] {"-1", "7", "MIN", "MAX"}) {
            for (String kind : new String[] {"-1", "0", "2", "3", "MIN", "MAX"}) {
                x.rows(name + "(" + p + ", " + kind + more + ") = UNKNOWN");
            }
        }
        for (String kind : new String[] {"-1", "3", "MIN", "MAX"}) {
            x.rows(name + "(0, " + kind + more + ") = OUTSIDE; " + name + "(6, " + kind + more + ") = OUTSIDE");
        }
        x.rows("send(6) = 6; " + name + "(6, -1" + more + ") = OUTSIDE; " + name + "(6, 3" + more + ") = OUTSIDE");
        Run.of(name + " without persons", "k0 1;").rows(name + "(0, 0" + more + ") = UNKNOWN; " + name + "(0, 3" + more + ") = UNKNOWN");
    }

    // ---- promise 18: MARK in a KIND. UNKNOWN, OUTSIDE

    private static void promise18() {
        personAndKind("mark", "");
        Run x = Run.of("marks", "k0 1;p9 1 0 9;p0 0 0 0;p0 0 0 1;").rows("mark(0, 0..2) = 54 14 9; mark(1, 0..2) = 0; mark(2, 0..2) = 1");
        x.rows("effort(0, 9) = 5; mark(0, 0..2) = 90 18 9; effort(0, 0) = 9; mark(0, 0..2) = 9; effort(0, 1) = 0; mark(0, 0..2) = 18 10 9");
        x.rows("rain(true) = 0; mark(0, 0..2) = 13 5 4; mark(2, 0..2) = 0; send(0) = 2; mark(0, 0) = 13");
    }

    // ---- promise 19: PLACE of a PERSON (0 FIRST, as all FIRST ones; the next ones 1 on); NONE: at THE COAST

    private static void promise19() {
        personAndKind("place", "");
        Run x = Run.of("places of seven", SEVEN).rows("place(0..6, 0) = 0 1 2 3 4 5 6; place(0..6, 2) = 0 1 2 3 4 5 6; send(0) = 6");
        x.rows("place(0..6, 0) = NONE 0 1 2 3 4 5; send(6) = 5; place(0..6, 0) = NONE 0 1 2 3 4 NONE; send(1..4) = 4 3 2 1");
        x.rows("place(5, 0) = 0; send(5) = 0; place(0..6, 0) = NONE; place(0, 3) = OUTSIDE");
        // one day more at the coast is at the coast yet
        Run.of("the last day at the coast", "k0 1;p1 1 1 1;").rows("day(1) = 1; place(0, 0) = NONE; day(1) = 2; place(0, 0) = 0");
    }

    private static void promise19AllFirst() {
        Run.of("all seven first", "k2 1;" + "p1 1 1 1;".repeat(7)).rows("place(0..6, 0) = 0");
        Run.of("six first", "k2 1;p0 1 1 1;" + "p1 1 1 1;".repeat(6)).rows("place(0..6, 0) = 1 0 0 0 0 0 0; place(0..6, 1) = 0");
        Run.of("two first, two like ones behind", "k2 1;p1 0 0 0;p2 0 0 0;p1 0 0 0;p2 0 0 0;").rows("place(0..3, 0) = 1 0 2 0");
        Run.of("by law 0 one alone is first", "k0 1;" + "p1 1 1 1;".repeat(7)).rows("place(0..6, 0) = 0 1 2 3 4 5 6");
    }

    // ---- promise 20: WOULD BE: what = 0 FIRST ones (a SET), 1 SECOND (NONE). OUTSIDE

    private static void promise20() {
        Run x = Run.of("wouldBe", SEVEN).rows("wouldBe(-1, 0) = OUTSIDE; wouldBe(3, 0) = OUTSIDE; wouldBe(MIN, 0) = OUTSIDE; wouldBe(MAX, 0) = OUTSIDE");
        x.rows("wouldBe(0, -1) = OUTSIDE; wouldBe(0, 2) = OUTSIDE; wouldBe(0, MIN) = OUTSIDE; wouldBe(0, MAX) = OUTSIDE; wouldBe(3, 2) = OUTSIDE");
        x.rows("wouldBe(0, 0..1) = 1 1; wouldBe(2, 0..1) = 1 1; effort(6, 9) = 5; effort(0, 3) = 5; effort(1, 3) = 5");
        // 27 24 35 30 25 20 27
        x.rows("wouldBe(0, 0..1) = 4 3");
        Run.on("wouldBe without a kingdom").rows("wouldBe(0, 0..1) = 0 NONE; wouldBe(3, 0) = OUTSIDE; wouldBe(0, 2) = OUTSIDE");
    }

    private static void promise20Nobody() {
        Run x = Run.of("two", "k0 1;p1 1 1 1;p1 1 1 1;").rows("wouldBe(0, 0..1) = 1 1; send(0) = 1; wouldBe(0, 0..1) = 2 NONE; send(1) = 0");
        x.rows("wouldBe(0, 0..1) = 0 NONE; wouldBe(2, 0..1) = 0 NONE");
        Run.of("all seven first", "k2 1;" + "p1 1 1 1;".repeat(7)).rows("wouldBe(0, 0..1) = 127 NONE; send(3) = 6; wouldBe(0, 0..1) = 119 NONE");
        Run.of("six first", "k2 1;p0 1 1 1;" + "p1 1 1 1;".repeat(6)).rows("wouldBe(0, 0..1) = 126 0");
        Run.of("no persons", "k2 1;").rows("wouldBe(0..2, 0) = 0; wouldBe(0..2, 1) = NONE");
    }

    // ---- promise 21: who holds an OFFICE behind n DAYS (0 .. 60); NONE. UNKNOWN, OUTSIDE

    private static void promise21() {
        Run x = Run.of("holds", SEVEN).rows("holds(-1, 0) = UNKNOWN; holds(4, 0) = UNKNOWN; holds(MIN, 0) = UNKNOWN; holds(MAX, 0) = UNKNOWN");
        x.rows("holds(0, -1) = OUTSIDE; holds(0, 61) = OUTSIDE; holds(0, MIN) = OUTSIDE; holds(0, MAX) = OUTSIDE; holds(4, 61) = UNKNOWN");
        x.rows("holds(-1, -1) = UNKNOWN; holds(3, 0) = NONE; holds(3, 1) = 1; holds(3, 6) = 6; holds(3, 7) = NONE; holds(1, 60) = NONE");
        x.rows("day(1) = 1; holds(3, 0) = 1; holds(0, 0) = 1; holds(1, 0) = NONE");
        Run.of("holds without offices", "k0 1;p1 1 1 1;").rows("holds(0, 0) = UNKNOWN; holds(0, 61) = UNKNOWN");
        Run.of("holds without persons", "k0 1;o0;").rows("holds(0, 0) = NONE; holds(0, 60) = NONE; holds(0, 61) = OUTSIDE");
    }

    private static void promise21AsDone() {
        String text = "k1 2;p9 3 5 1;p4 8 2 9;p7 7 1 4;p2 2 9 6;d0,1,2,0;o0;o1;o2;";
        Run x = Run.of("holds as done", text).rows("rain(true) = 0; effort(3, 8) = 5");
        Run y = Run.of("done", text).rows("rain(true) = 0; effort(3, 8) = 5");
        for (int n = 0; n <= 60; n++) {
            for (int o = 0; o < 3; o++) {
                x.rows("holds(" + o + ", " + n + ") = " + y.call("office", o, 1, 0));
            }
            y.rows("day(1) = " + (n + 1));
        }
    }

    // ---- promise 22: EFFORTS (a SET of numbers). UNKNOWN, OUTSIDE, NOT: at THE COAST

    private static void promise22() {
        personAndKind("efforts", "");
        Run x = Run.of("at the coast", SEVEN).rows("send(6) = 6; efforts(6, 0) = NOT; efforts(6, 2) = NOT; efforts(6, 3) = OUTSIDE");
        x.rows("efforts(7, 0) = UNKNOWN; recall(6) = 7; efforts(6, 1) = 0");
        Run.of("on the last day there", "k0 1;p1 1 1 1;").rows("day(1) = 1; efforts(0, 0) = NOT; day(1) = 2; efforts(0, 0) = 0");
    }

    private static void promise22LeastAndMost() {
        Run.of("by 9 alone", JUST).rows("efforts(0, 0) = 512");
        Run.of("not even by 9", NOT_JUST).rows("efforts(1, 0) = 0");
        Run.of("by 0 alone", "k0 1;p9 0 0 0;p1 0 0 0;").rows("efforts(0, 0) = 1");
        // of like marks 0 is first by its lesser number: 0 has 0, 9, .., 1 has 0
        Run.of("not even by 0", "k0 1;p9 0 0 0;p0 0 0 0;").rows("efforts(0, 0) = 0; efforts(1, 0) = 1023");
        // own 0 .. 9, others 5: up to 4, by 5 both are first, and nobody is behind
        Run.of("law 2", "k2 1;p1 0 0 0;p1 0 0 0;").rows("efforts(0, 0) = 31; efforts(1, 0) = 31");
        Run.of("law 0, the lesser number", "k0 1;p1 0 0 0;p1 0 0 0;").rows("efforts(0, 0) = 31; efforts(1, 0) = 63");
        Run.of("law 1, the greater daring", "k1 1;p1 0 0 0;p1 0 0 1;").rows("efforts(0, 0) = 127; efforts(1, 0) = 15");
        // in rain 5 and 5: the whole daring counts for like marks
        Run.of("law 1 in rain", "k1 1;p1 0 0 0;p1 0 0 1;").rows("rain(true) = 0; efforts(0, 0) = 63; efforts(1, 0) = 31");
        Run.of("one alone", "k2 1;p1 1 1 1;").rows("efforts(0, 0..2) = 0");
    }

    // ---- promise 23: RESTLESS: at COURT, would not be SECOND now, but could be by another EFFORT. OUTSIDE

    private static void promise23() {
        Run x = Run.of("restless", SEVEN).rows("restless(-1) = OUTSIDE; restless(3) = OUTSIDE; restless(MIN) = OUTSIDE; restless(MAX) = OUTSIDE");
        // 1 is second; 0 could be by 36, 2 and 3 by 42, 4 by 45 behind 0's; 5 has 36, 6 has 27 at most
        x.rows("restless(0) = 29; restless(1) = 0; send(0) = 6");
        // 2 is second; 1 could be by 32, 3 by 36, 4 by 40 behind 1's, 5 by 36; 6 has 27 at most
        x.rows("restless(0) = 58");
        Run.on("restless without a kingdom").rows("restless(0..2) = 0; restless(3) = OUTSIDE; restless(-1) = OUTSIDE");
        Run.of("restless without persons", "k0 1;").rows("restless(0..2) = 0");
        Run all = Run.of("all seven", "k2 1;" + "p1 1 0 0;".repeat(7)).rows("restless(0) = 127; restless(2) = 0; send(6) = 6; restless(0) = 63");
        all.rows("effort(0, 4) = 5; wouldBe(0, 1) = 0; restless(0) = 0");
        Run.of("one alone", "k2 1;p1 1 1 1;").rows("restless(0) = 0; send(0) = 0; restless(0) = 0");
        Run.of("just by 9", JUST).rows("restless(0) = 5");
        Run.of("not just by 9", NOT_JUST).rows("restless(0) = 4");
    }

    // ---- promise 24: LET: what = 0 how many, 1 which; NONE. UNKNOWN, OUTSIDE, NOT: at THE COAST

    private static void promise24() {
        personAndKind("letWin", ", 0");
        personAndKind("letWin", ", 1");
        personAndKind("letWin", ", 2");
        Run x = Run.of("letWin", SEVEN).rows("letWin(0, 0, -1) = OUTSIDE; letWin(0, 0, 2) = OUTSIDE; letWin(0, 0, MIN) = OUTSIDE");
        x.rows("letWin(0, 0, MAX) = OUTSIDE; letWin(7, 0, 2) = UNKNOWN; letWin(0, 3, 2) = OUTSIDE; send(0) = 6; letWin(0, 0, 0..1) = NOT");
        x.rows("letWin(0, 3, 0) = OUTSIDE; letWin(0, 0, 2) = OUTSIDE; letWin(0, 0, -1) = OUTSIDE; letWin(7, 0, 0) = UNKNOWN");
    }

    private static void promise24FewestAndLeast() {
        Run x = Run.of("none, one, up to five", SEVEN).rows("letWin(0, 0, 0..1) = NONE; letWin(1, 0, 0..1) = 0; letWin(2, 0, 0..1) = 1");
        x.rows("letWin(3, 0, 0..1) = 2 3; letWin(4, 0, 0..1) = 3 7; letWin(5, 0, 0..1) = 4 15; letWin(6, 0, 0..1) = 5 31");
        // others at court alone
        x.rows("send(0) = 6; letWin(1, 0, 0..1) = NONE; letWin(2, 0, 0..1) = 0; letWin(6, 0, 0..1) = 4 30; send(3) = 5; letWin(6, 0, 0..1) = 3 22");
        String high = "k2 1;p9 0 0 9;p8 0 0 9;p7 0 0 9;p6 0 0 9;p5 0 0 9;p4 0 0 9;";
        // whoever does not let is first alone, and all who let have more than 5
        Run.of("all six others", high + "p1 0 0 0;").rows("letWin(6, 0, 0..1) = 6 63");
        Run.of("not even all six", high + "p1 0 0 4;").rows("letWin(6, 0, 0..1) = NONE");
        // 20 20 30 10: both of 20, or the one of 30 alone
        Run.of("the fewest ahead of the least", "k2 1;p4 0 0 0;p4 0 0 0;p6 0 0 0;p2 0 0 0;").rows("letWin(3, 0, 0..1) = 1 4");
        // two of three, any two
        Run.of("the least of like ones", "k0 1;p1 0 0 0;p7 0 0 0;p7 0 0 0;p7 0 0 0;").rows("letWin(0, 0, 0..1) = 2 6");
        Run.of("one alone", "k0 1;p1 1 1 1;").rows("letWin(0, 0, 0..1) = NONE");
        // the first one's own effort is not asked for
        Run.of("the first of two", "k0 1;p9 0 0 0;p1 0 0 0;").rows("letWin(0, 0, 0..1) = NONE; letWin(1, 0, 0..1) = 0");
    }

    // ---- promise 25: the least EFFORT, told now, by which it holds an OFFICE behind n DAYS (1 .. 60); NONE

    private static void promise25() {
        Run x = Run.of("win", SEVEN).rows("win(-1, 0, 1) = UNKNOWN; win(7, 0, 1) = UNKNOWN; win(MIN, 0, 1) = UNKNOWN; win(MAX, 0, 1) = UNKNOWN");
        x.rows("win(0, -1, 1) = UNKNOWN; win(0, 4, 1) = UNKNOWN; win(0, MIN, 1) = UNKNOWN; win(0, MAX, 1) = UNKNOWN; win(7, 4, 0) = UNKNOWN");
        x.rows("win(7, 0, 0) = UNKNOWN; win(0, 4, 61) = UNKNOWN; win(0, 0, 0) = OUTSIDE; win(0, 0, -1) = OUTSIDE; win(0, 0, 61) = OUTSIDE");
        x.rows("win(0, 0, MIN) = OUTSIDE; win(0, 0, MAX) = OUTSIDE; win(6, 3, 0) = OUTSIDE; win(6, 3, 1) = NONE; win(0, 1, 60) = NONE");
        Run.of("win without offices", "k0 1;p1 1 1 1;").rows("win(0, 0, 1) = UNKNOWN; win(0, 0, 0) = UNKNOWN");
        Run.of("win without persons", "k0 1;o0;").rows("win(0, 0, 1) = UNKNOWN; win(0, 0, 61) = UNKNOWN");
    }

    private static void promise25LeastEffort() {
        Run.of("by 9", JUST).rows("win(0, 0, 1) = 9");
        Run.of("not even by 9", NOT_JUST).rows("win(1, 0, 1) = NONE");
        Run.of("by 0", "k0 1;p9 0 0 9;p1 0 0 0;o0;").rows("win(1, 0, 1) = 0; win(0, 0, 1) = NONE");
        // 1 has 5: 0 is behind it by 0 alone
        Run.of("by 0 alone", "k0 1;p9 0 0 0;p1 0 0 0;o0;").rows("win(0, 0, 1) = 0");
        // 0 goes and 2 is made while 1 is at the coast; then 2 has 9 and 3 has 4; what 1 has now does not matter
        Run x = Run.of("from the coast", "k0 1;p9 0 0 0;p5 0 0 0;p1 0 0 9;p0 0 0 4;o0;").rows("send(1) = 3; win(1, 0, 1) = NONE; win(1, 0, 2) = 1");
        x.rows("effort(1, 9) = 5; win(1, 0, 2) = 1; person(1, 4) = 9");
    }

    private static void promise25AsDone() {
        String text = "k0 2;p9 3 5 1;p4 8 2 9;p7 7 1 4;d0,1,0;o0;o1;";
        Run x = Run.of("win as done", text);
        for (int n : new int[] {1, 2, 3, 29, 30, 31, 59, 60}) {
            for (int p = 0; p < 3; p++) {
                x.rows("win(" + p + ", 0, " + n + ") = " + leastByDoing(text, p, n));
            }
        }
    }

    private static int leastByDoing(String text, int p, int n) {
        for (int e = 0; e <= 9; e++) {
            Run x = Run.of("win done", text).rows("effort(" + p + ", " + e + ")");
            for (int day = 0; day < n; day++) {
                x.rows("day(1)");
            }
            if (x.call("office", 0, 1, 0) == p) {
                return e;
            }
        }
        return Due.NONE;
    }

    // ---- promise 26: KINDS (a SET) of which a CONTEST now would make a PERSON SECOND. UNKNOWN

    private static void promise26() {
        Run x = Run.of("next", SEVEN).rows("next(-1) = UNKNOWN; next(7) = UNKNOWN; next(MIN) = UNKNOWN; next(MAX) = UNKNOWN; next(0..6) = 0 7 0 0 0 0 0");
        x.rows("teach(6, 2, 9) = 0; next(0..6) = 4 3 0 0 0 0 0; send(1) = 6; next(0..6) = 4 0 3 0 0 0 0; send(0) = 5; next(2..3) = 4 3");
        Run.of("one alone", "k0 1;p1 1 1 1;").rows("next(0) = 0; next(1) = UNKNOWN");
        Run.of("each kind another", "k0 1;p2 1 0 0;p1 0 2 0;p0 2 1 0;").rows("next(0..2) = 2 1 4");
        Run.of("next without persons", "k0 1;").rows("next(0) = UNKNOWN");
    }

    // ---- promise 27: whether (1, 0) of two PERSONS one has more GIFT than the other in more KINDS than less

    private static void promise27() {
        Run x = Run.of("beats", SEVEN).rows("beats(-1, 0) = UNKNOWN; beats(7, 0) = UNKNOWN; beats(0, -1) = UNKNOWN; beats(0, 7) = UNKNOWN");
        x.rows("beats(MIN, 0) = UNKNOWN; beats(0, MIN) = UNKNOWN; beats(MAX, 0) = UNKNOWN; beats(0, MAX) = UNKNOWN; beats(0, 0) = UNKNOWN");
        x.rows("beats(6, 6) = UNKNOWN; beats(7, 7) = UNKNOWN; beats(-1, -1) = UNKNOWN; beats(0, 6) = 1; beats(6, 0) = 0; beats(5, 6) = 1");
        // more in none, one, two, three kinds against less in none, one, two
        Run y = Run.of("kinds", "k0 1;p5 5 5 0;p5 5 5 9;p6 5 5 0;p6 4 5 0;p6 6 4 0;p6 4 4 0;p6 6 6 0;").rows("beats(1..6, 0) = 0 1 0 1 0 1");
        y.rows("beats(0, 1..6) = 0 0 0 0 1 0; send(0) = 6; send(6) = 5; beats(6, 0) = 1");
        Run.of("beats without persons", "k0 1;").rows("beats(0, 1) = UNKNOWN; beats(0, 0) = UNKNOWN");
    }

    // ---- promise 28: the greatest GIFT less the least; 0 without PERSONS. OUTSIDE

    private static void promise28() {
        Run x = Run.of("spread", SEVEN).rows("spread(-1) = OUTSIDE; spread(3) = OUTSIDE; spread(MIN) = OUTSIDE; spread(MAX) = OUTSIDE; spread(0..2) = 6 0 0");
        x.rows("teach(3, 1, 9) = 0; spread(1) = 9; teach(6, 2, 1) = 0; spread(2) = 1; send(3) = 6; spread(1) = 9; teach(6, 0, 0) = 3; spread(0) = 9");
        Run.of("one", "k0 1;p9 0 5 0;").rows("spread(0..2) = 0; spread(3) = OUTSIDE");
        Run.of("two", "k0 1;p9 0 5 0;p0 9 5 0;").rows("spread(0..2) = 9 9 0");
        Run.of("without persons", "k0 1;").rows("spread(0..2) = 0; spread(-1) = OUTSIDE; spread(3) = OUTSIDE");
        Run.on("without a kingdom").rows("spread(0..2) = 0; spread(-1) = OUTSIDE; spread(3) = OUTSIDE");
        // persons of an earlier kingdom are not counted
        Run.of("an earlier kingdom", "k0 1;p9 9 9 9;p0 0 0 0;").feed("k0 1;p5 5 5 5;").rows("kingdom() = 1; spread(0..2) = 0; kingdom() = 0; spread(0) = 0");
    }

    // ---- promise 29: n DAYS (0 .. 60), q of a hundred (0 .. 100): a BILLION times q / 100 each (cut). OUTSIDE

    private static void promise29() {
        Run x = Run.on("dry").rows("dry(-1, 50) = OUTSIDE; dry(61, 50) = OUTSIDE; dry(MIN, 50) = OUTSIDE; dry(MAX, 50) = OUTSIDE");
        x.rows("dry(1, -1) = OUTSIDE; dry(1, 101) = OUTSIDE; dry(1, MIN) = OUTSIDE; dry(1, MAX) = OUTSIDE; dry(61, 101) = OUTSIDE; dry(0, 101) = OUTSIDE");
        x.rows("dry(0, 0) = BILLION; dry(0, 1) = BILLION; dry(0, 100) = BILLION; dry(60, 100) = BILLION; dry(1, 0) = 0; dry(60, 0) = 0");
        x.rows("dry(1, 100) = BILLION; dry(1, 1) = 10000000; dry(1, 99) = 990000000; dry(60, 99) = 547156620; dry(60, 1) = 0");
    }

    private static void promise29Cut() {
        Run x = Run.on("cut each day").rows("dry(4, 1) = 10; dry(5, 1) = 0; dry(6, 1) = 0; dry(5, 7) = 1680; dry(6, 7) = 117; dry(7, 7) = 8; dry(8, 7) = 0");
        // 99 of a hundred: 970299000, 960596010, 950990049, 941480148.51
        x.rows("dry(3, 99) = 970299000; dry(4, 99) = 960596010; dry(5, 99) = 950990049; dry(6, 99) = 941480148");
        // cut each day, not once: 941480148 times 99 / 100 is 932065346.52, and of 941480148.51 it is 932065347
        x.rows("dry(7, 99) = 932065346; dry(60, 50) = 0; dry(29, 50) = 1; dry(30, 50) = 0");
    }

    /** TRIED from now; nothing changes by it. */
    private static void nothingChanges() {
        String text = "k1 2;p9 3 5 1;p4 8 2 9;p7 7 1 4;p2 2 9 6;d0,1,2,0;o0;o1;o2;";
        Run x = Run.of("tried", text).rows("day(4) = 4; rain(true) = 0; seed(9) = 0; keep(0) = 1; effort(1, 7) = 5");
        Run y = Run.of("not tried", text).rows("day(4) = 4; rain(true) = 0; seed(9) = 0; keep(0) = 1; effort(1, 7) = 5");
        x.rows("mark(0..3, 0..2); place(0..3, 0..2); wouldBe(0..2, 0..1); holds(0..2, 0); holds(0..2, 60); efforts(0..3, 0..2); restless(0..2)");
        x.rows("letWin(0..3, 0..2, 0..1); win(0..3, 0..2, 1); win(0..3, 0..2, 60); next(0..3); beats(0..3, 0..3); spread(0..2); dry(9, 9)");
        String[] asked = {"told 17 1", "person 4 8", "office 3 2", "logged 5 4", "goBack 1 1", "told 17 1", "seed 1 1"};
        for (String ask : asked) {
            String[] parts = ask.split(" ");
            for (int i = 0; i < Integer.parseInt(parts[1]); i++) {
                for (int j = 0; j < Integer.parseInt(parts[2]); j++) {
                    Due.due("tried, " + parts[0] + "(" + i + ", " + j + ")", x.call(parts[0], i, j, 0), y.call(parts[0], i, j, 0));
                }
            }
        }
    }
}
