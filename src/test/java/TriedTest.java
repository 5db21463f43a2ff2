/** Promises 18 to 29: what is tried, by which nothing changes. */
public final class TriedTest {
    private static final String FOUR = "k0 2;p5 3 7 4;p6 3 1 0;p2 9 4 6;p5 5 5 4;d0,1,2;o0;o1;o0;";
    /** Marks in kind 0: 23 23 23 22 2 by law 2. */
    private static final String LIKE = "k2 3;p4 0 0 3;p4 1 0 3;p4 2 0 3;p4 0 1 2;p0 0 0 2;o0;";

    public static void main(String[] args) {
        marks();
        places();
        wouldBe();
        holds();
        efforts();
        restless();
        letting();
        winning();
        next();
        beats();
        spread();
        dry();
        wrongPersonsAndKinds();
        nothingChanges();
        Due.end("TriedTest");
    }

    private static void marks() {
        SecondBest x = Due.of("k0 1;p5 3 7 9;p0 9 1 5;");
        Due.row("marks", new int[] {x.mark(0, 0), x.mark(0, 1), x.mark(0, 2), x.mark(1, 0)}, 34, 24, 44, 5);
        x.effort(0, 9);
        x.effort(1, 0);
        Due.row("by effort", new int[] {x.mark(0, 0), x.mark(0, 2), x.mark(1, 1)}, 54, 72, 5);
        x.rain(true);
        Due.row("in rain", new int[] {x.mark(0, 0), x.mark(1, 1)}, 49, 2);
        x.send(0);
        Due.due("at the coast", x.mark(0, 0), 49);
    }

    private static void places() {
        SecondBest x = Due.of(FOUR);
        Due.row("kind 0", new int[] {x.place(0, 0), x.place(1, 0), x.place(2, 0), x.place(3, 0)}, 1, 0, 3, 2);
        x.send(1);
        Due.row("less one", new int[] {x.place(0, 0), x.place(1, 0), x.place(2, 0), x.place(3, 0)}, 0, -1, 2, 1);
        SecondBest y = Due.of(LIKE);
        int[] all = new int[5];
        for (int p = 0; p < 5; p++) {
            all[p] = y.place(p, 0);
        }
        Due.row("law 2", all, 0, 0, 0, 1, 2);
        SecondBest z = Due.of("k1 1;p5 0 0 3;p4 0 0 8;p4 0 0 8;p5 0 0 2;");
        for (int p = 0; p < 4; p++) {
            all[p] = z.place(p, 0);
        }
        Due.row("law 1", new int[] {all[0], all[1], all[2], all[3]}, 2, 0, 1, 3);
        z.rain(true);
        // 26 24 24 26: the greater daring is first
        Due.row("law 1 in rain", new int[] {z.place(0, 0), z.place(3, 0), z.place(1, 0)}, 0, 1, 2);
        SecondBest halves = Due.of("k1 1;p1 0 0 4;p1 0 0 5;");
        halves.rain(true);
        // 7 7: daring is told by the text, its half counts for marks alone
        Due.due("daring is whole for the law", halves.place(1, 0), 0);
    }

    private static void wouldBe() {
        SecondBest x = Due.of(FOUR);
        Due.row("kind 0", new int[] {x.wouldBe(0, 0), x.wouldBe(0, 1)}, 2, 0);
        Due.row("kind 1", new int[] {x.wouldBe(1, 0), x.wouldBe(1, 1)}, 4, 3);
        Due.row("kind 2", new int[] {x.wouldBe(2, 0), x.wouldBe(2, 1)}, 1, 3);
        SecondBest y = Due.of(LIKE);
        Due.row("law 2", new int[] {y.wouldBe(0, 0), y.wouldBe(0, 1)}, 7, 3);
        y.send(1);
        Due.row("law 2 less one", new int[] {y.wouldBe(0, 0), y.wouldBe(0, 1)}, 5, 3);
        SecondBest one = Due.of("k0 1;p1 1 1 1;");
        Due.row("one alone", new int[] {one.wouldBe(0, 0), one.wouldBe(0, 1)}, 1, -1);
        one.send(0);
        Due.row("nobody", new int[] {one.wouldBe(0, 0), one.wouldBe(0, 1)}, 0, -1);
        Due.due("wouldBe(0, 2)", x.wouldBe(0, 2), Due.OUTSIDE);
        Due.due("wouldBe(0, -1)", x.wouldBe(0, -1), Due.OUTSIDE);
        Due.due("wouldBe(3, 0)", x.wouldBe(3, 0), Due.OUTSIDE);
        Due.due("wouldBe(-1, 0)", x.wouldBe(-1, 0), Due.OUTSIDE);
        for (int far : Due.FAR) {
            Due.due("wouldBe(0, " + far + ")", x.wouldBe(0, far), Due.OUTSIDE);
            Due.due("wouldBe(" + far + ", 0)", x.wouldBe(far, 0), Due.OUTSIDE);
        }
    }

    private static void holds() {
        SecondBest x = Due.of(FOUR);
        Due.row("at first", new int[] {x.holds(0, 0), x.holds(0, 1), x.holds(1, 1), x.holds(1, 2)}, -1, 0, -1, 3);
        for (int n = 0; n <= 30; n++) {
            SecondBest y = Due.of(FOUR);
            if (n > 0) {
                y.day(n);
            }
            for (int o = 0; o < 3; o++) {
                Due.due("holds(" + o + ", " + n + ")", x.holds(o, n), y.office(o, 1));
            }
        }
        SecondBest z = Due.of(FOUR);
        z.day(30);
        z.day(30);
        Due.due("holds(0, 60)", x.holds(0, 60), z.office(0, 1));
        Due.due("holds(0, 61)", x.holds(0, 61), Due.OUTSIDE);
        Due.due("holds(0, -1)", x.holds(0, -1), Due.OUTSIDE);
        Due.due("holds(3, 0)", x.holds(3, 0), Due.UNKNOWN);
        Due.due("holds(-1, 0)", x.holds(-1, 0), Due.UNKNOWN);
        Due.due("holds(3, 61)", x.holds(3, 61), Due.UNKNOWN);
        for (int far : Due.FAR) {
            Due.due("holds(" + far + ", 0)", x.holds(far, 0), Due.UNKNOWN);
            Due.due("holds(0, " + far + ")", x.holds(0, far), Due.OUTSIDE);
        }
    }

    private static void efforts() {
        // others 40 and 20; own 3 e + 1: above 20, below 40: 7, 8, 9
        SecondBest x = Due.of("k0 1;p8 0 0 0;p4 0 0 0;p3 0 0 1;");
        Due.due("efforts(2, 0)", x.efforts(2, 0), 1 << 7 | 1 << 8 | 1 << 9);
        // others 20 and 16; own 8 e: not above 20, and of like marks the lesser number is first: 2
        Due.due("efforts(0, 0)", x.efforts(0, 0), 1 << 2);
        // 2 is first by its daring; of the others 0 has the lesser number
        Due.due("a kind without gifts", x.efforts(0, 1), 1023);
        x.send(0);
        Due.due("efforts at the coast", x.efforts(0, 0), Due.NOT);
        Due.due("outside at the coast", x.efforts(0, 3), Due.OUTSIDE);
        SecondBest one = Due.of("k0 1;p1 1 1 1;");
        Due.due("one alone is never second", one.efforts(0, 0), 0);
        SecondBest law = Due.of("k2 1;p4 0 0 0;p4 0 0 0;p1 0 0 0;");
        // own 4 e, others 20 and 5: from 8 to 16; by 5 both are first
        Due.due("law 2", law.efforts(0, 0), 1 << 2 | 1 << 3 | 1 << 4);
    }

    private static void restless() {
        SecondBest x = Due.of("k0 1;p8 0 0 0;p4 0 0 0;p3 0 0 1;");
        // 1 is second; 0 could be by 2, 2 by 7
        Due.due("restless(0)", x.restless(0), 5);
        x.send(2);
        // 0 could be by less than 1 has; 1 is second
        Due.due("less one", x.restless(0), 1);
        x.send(1);
        Due.due("one alone", x.restless(0), 0);
        // 54 0 5: 0 has 9 without any effort, 1 has 0 by all efforts
        Due.due("no gift for it", Due.of("k0 1;p9 0 0 9;p0 0 0 0;p0 0 0 5;").restless(0), 0);
    }

    private static void letting() {
        // marks: 45 40 35 5: for 3 to be second two of the three must let
        SecondBest x = Due.of("k0 1;p9 0 0 0;p8 0 0 0;p7 0 0 0;p1 0 0 0;");
        Due.row("of like ones the least", new int[] {x.letWin(3, 0, 0), x.letWin(3, 0, 1)}, 2, 3);
        Due.row("one must", new int[] {x.letWin(2, 0, 0), x.letWin(2, 0, 1)}, 1, 1);
        Due.row("none must", new int[] {x.letWin(1, 0, 0), x.letWin(1, 0, 1)}, 0, 0);
        Due.row("the first cannot", new int[] {x.letWin(0, 0, 0), x.letWin(0, 0, 1)}, -1, -1);
        Due.row("without gifts", new int[] {x.letWin(3, 1, 0), x.letWin(3, 1, 1)}, -1, -1);
        x.send(0);
        Due.row("others at court alone", new int[] {x.letWin(3, 0, 0), x.letWin(3, 0, 1)}, 1, 2);
        Due.due("at the coast", x.letWin(0, 0, 0), Due.NOT);
        Due.due("outside at the coast", x.letWin(0, 0, 2), Due.OUTSIDE);
        Due.due("letWin(1, 0, -1)", x.letWin(1, 0, -1), Due.OUTSIDE);
        Due.due("letWin(4, 0, 2)", x.letWin(4, 0, 2), Due.UNKNOWN);
        for (int far : Due.FAR) {
            Due.due("letWin(1, 0, " + far + ")", x.letWin(1, 0, far), Due.OUTSIDE);
        }
        SecondBest one = Due.of("k0 1;p1 1 1 1;");
        Due.due("one alone", one.letWin(0, 0, 0), Due.NONE);
        // both are first together with 9 left each; if one lets alone, 2 is the third yet
        SecondBest all = Due.of("k2 1;p9 0 0 9;p8 0 0 9;p1 0 0 0;");
        Due.row("all others must", new int[] {all.letWin(2, 0, 0), all.letWin(2, 0, 1)}, 2, 3);
        // 20 20 30 10: both of 20, or the one of 30
        SecondBest fewer = Due.of("k2 1;p4 0 0 0;p4 0 0 0;p6 0 0 0;p2 0 0 0;");
        Due.row("fewer ahead of the least", new int[] {fewer.letWin(3, 0, 0), fewer.letWin(3, 0, 1)}, 1, 4);
    }

    private static void winning() {
        SecondBest x = Due.of("k0 1;p8 0 0 0;p4 0 0 0;p3 0 0 1;o0;o1;");
        Due.due("win(2, 0, 1)", x.win(2, 0, 1), 7);
        Due.due("win(0, 0, 1)", x.win(0, 0, 1), 2);
        // 16 by 4, as 2 has, who has the greater number
        Due.due("win(1, 0, 1)", x.win(1, 0, 1), 4);
        Due.due("an office of no day", x.win(0, 1, 60), Due.NONE);
        Due.due("there is no effort of 10", Due.of("k0 1;p1 0 0 0;p8 0 0 0;p2 0 0 0;o0;").win(0, 0, 1), Due.NONE);
        for (int p = 0; p < 3; p++) {
            for (int n = 1; n <= 12; n++) {
                Due.due("win(" + p + ", 0, " + n + ")", x.win(p, 0, n), leastByDoing(p, n));
            }
        }
        x.send(2);
        Due.due("back behind a day", x.win(2, 0, 2), 0);
        Due.due("win(3, 0, 1)", x.win(3, 0, 1), Due.UNKNOWN);
        Due.due("win(0, 2, 1)", x.win(0, 2, 1), Due.UNKNOWN);
        Due.due("win(-1, 0, 1)", x.win(-1, 0, 1), Due.UNKNOWN);
        Due.due("win(0, -1, 1)", x.win(0, -1, 1), Due.UNKNOWN);
        Due.due("win(0, 2, 0)", x.win(0, 2, 0), Due.UNKNOWN);
        Due.due("win(0, 0, 0)", x.win(0, 0, 0), Due.OUTSIDE);
        Due.due("win(0, 0, 61)", x.win(0, 0, 61), Due.OUTSIDE);
        for (int far : Due.FAR) {
            Due.due("win(" + far + ", 0, 1)", x.win(far, 0, 1), Due.UNKNOWN);
            Due.due("win(0, " + far + ", 1)", x.win(0, far, 1), Due.UNKNOWN);
            Due.due("win(0, 0, " + far + ")", x.win(0, 0, far), Due.OUTSIDE);
        }
    }

    private static int leastByDoing(int p, int n) {
        for (int e = 0; e < 10; e++) {
            SecondBest x = Due.of("k0 1;p8 0 0 0;p4 0 0 0;p3 0 0 1;o0;o1;");
            x.effort(p, e);
            x.day(n);
            if (x.office(0, 1) == p) {
                return e;
            }
        }
        return Due.NONE;
    }

    private static void next() {
        SecondBest x = Due.of(FOUR);
        Due.row("next", new int[] {x.next(0), x.next(1), x.next(2), x.next(3)}, 1, 0, 0, 6);
        x.send(3);
        Due.due("at the coast", x.next(3), 0);
        Due.due("next(4)", x.next(4), Due.UNKNOWN);
        Due.due("next(-1)", x.next(-1), Due.UNKNOWN);
        for (int far : Due.FAR) {
            Due.due("next(" + far + ")", x.next(far), Due.UNKNOWN);
        }
    }

    private static void beats() {
        SecondBest x = Due.of("k0 1;p3 2 1 0;p2 1 3 0;p3 2 0 9;p3 2 1 9;");
        Due.row("two of three", new int[] {x.beats(0, 1), x.beats(1, 0)}, 1, 0);
        Due.row("one of one", new int[] {x.beats(0, 2), x.beats(2, 0)}, 1, 0);
        Due.row("all alike", new int[] {x.beats(0, 3), x.beats(3, 0)}, 0, 0);
        x.teach(3, 0, 9);
        x.teach(3, 1, 0);
        Due.row("one and one", new int[] {x.beats(0, 3), x.beats(3, 0)}, 0, 0);
        Due.due("one twice", x.beats(1, 1), Due.UNKNOWN);
        Due.due("beats(4, 0)", x.beats(4, 0), Due.UNKNOWN);
        Due.due("beats(0, 4)", x.beats(0, 4), Due.UNKNOWN);
        Due.due("beats(-1, 0)", x.beats(-1, 0), Due.UNKNOWN);
        Due.due("beats(0, -1)", x.beats(0, -1), Due.UNKNOWN);
        for (int far : Due.FAR) {
            Due.due("beats(" + far + ", 0)", x.beats(far, 0), Due.UNKNOWN);
            Due.due("beats(0, " + far + ")", x.beats(0, far), Due.UNKNOWN);
        }
    }

    private static void spread() {
        SecondBest x = Due.of(FOUR);
        Due.row("spread", new int[] {x.spread(0), x.spread(1), x.spread(2)}, 4, 6, 6);
        x.send(2);
        Due.due("the coast counts, too", x.spread(1), 6);
        x.teach(0, 0, 9);
        Due.due("taught", x.spread(0), 7);
        Due.due("without persons", Due.of("k0 1;").spread(2), 0);
        Due.due("one alone", Due.of("k0 1;p7 7 7 7;").spread(2), 0);
    }

    private static void dry() {
        SecondBest x = new SecondBest();
        Due.row("dry", new int[] {x.dry(0, 0), x.dry(0, 100), x.dry(60, 100), x.dry(1, 0), x.dry(60, 0)},
            1000000000, 1000000000, 1000000000, 0, 0);
        Due.row("odds", new int[] {x.dry(1, 37), x.dry(2, 37), x.dry(3, 33), x.dry(2, 90)},
            370000000, 136900000, 35937000, 810000000);
        // cut each day: 7 of a hundred: 70000000 4900000 343000 24010 1680 117 8 0
        Due.row("cut each day", new int[] {x.dry(5, 7), x.dry(6, 7), x.dry(7, 7), x.dry(8, 7)}, 1680, 117, 8, 0);
        Due.due("dry(60, 99)", x.dry(60, 99), 547156620);
        Due.due("dry(61, 0)", x.dry(61, 0), Due.OUTSIDE);
        Due.due("dry(-1, 0)", x.dry(-1, 0), Due.OUTSIDE);
        Due.due("dry(0, 101)", x.dry(0, 101), Due.OUTSIDE);
        Due.due("dry(0, -1)", x.dry(0, -1), Due.OUTSIDE);
        for (int far : Due.FAR) {
            Due.due("dry(" + far + ", 0)", x.dry(far, 0), Due.OUTSIDE);
            Due.due("dry(0, " + far + ")", x.dry(0, far), Due.OUTSIDE);
        }
    }

    private static void wrongPersonsAndKinds() {
        SecondBest x = Due.of(FOUR);
        int[] wrong = {-1, 4, Integer.MIN_VALUE, Integer.MAX_VALUE, -1000000001};
        for (int p : wrong) {
            Due.row("person " + p, new int[] {x.mark(p, 3), x.place(p, 3), x.efforts(p, 3), x.letWin(p, 3, 0)},
                Due.UNKNOWN, Due.UNKNOWN, Due.UNKNOWN, Due.UNKNOWN);
            int kind = p == 4 ? 3 : p;
            Due.row("kind " + kind, new int[] {x.mark(0, kind), x.place(0, kind), x.efforts(0, kind), x.letWin(0, kind, 0)},
                Due.OUTSIDE, Due.OUTSIDE, Due.OUTSIDE, Due.OUTSIDE);
            Due.row("kind of all " + kind, new int[] {x.restless(kind), x.spread(kind)}, Due.OUTSIDE, Due.OUTSIDE);
        }
        x.send(0);
        Due.due("place outside at the coast", x.place(0, 3), Due.OUTSIDE);
    }

    private static void nothingChanges() {
        SecondBest x = Due.of(FOUR);
        x.day(1);
        x.holds(0, 60);
        x.win(2, 1, 60);
        x.letWin(2, 0, 0);
        x.efforts(2, 0);
        x.restless(1);
        x.next(0);
        x.wouldBe(2, 1);
        Due.row("as it was", new int[] {x.told(6), x.told(8), x.told(13), x.told(16), x.office(0, 1)}, 1, 13, 1, 1, 0);
        for (int p = 0; p < 4; p++) {
            Due.due("effort as it was", x.person(p, 4), 5);
        }
        Due.due("seed as it was", x.seed(0), 0);
    }
}
