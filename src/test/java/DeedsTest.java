/** Promises 10 to 17: days, efforts, rain, who is taught, sent, called back, drifts, undone. */
public final class DeedsTest {
    private static final String THREE = "k0 2;p9 1 0 0;p5 5 5 3;p1 9 9 8;o0;o1;d0,1;";

    public static void main(String[] args) {
        days();
        lawsOfContests();
        theCoast();
        refusedDays();
        efforts();
        rain();
        teaching();
        sending();
        calling();
        drifting();
        undoing();
        undoneInAll();
        Due.end("DeedsTest");
    }

    private static int[] people(SecondBest x, int what) {
        int[] all = new int[x.told(2)];
        for (int p = 0; p < all.length; p++) {
            all[p] = x.person(p, what);
        }
        return all;
    }

    private static void days() {
        SecondBest x = Due.of(THREE);
        // kind 0: 45 28 13: 0 goes, 1 is made
        Due.due("day(1)", x.day(1), 1);
        Due.row("coast", people(x, 5), 2, 0, 0);
        Due.row("gifts", people(x, 0), 9, 4, 1);
        Due.row("other gifts stay", people(x, 1), 1, 5, 9);
        Due.row("held", new int[] {x.office(0, 1), x.office(1, 1)}, 1, -1);
        // kind 1: 28 53: 2 goes, 1 is made
        Due.due("day(1) again", x.day(1), 2);
        Due.row("coast again", people(x, 5), 1, 0, 2);
        Due.row("both held", new int[] {x.office(0, 1), x.office(1, 1)}, 1, 1);
        Due.row("once second", people(x, 6), 0, 2, 0);
        // kind 0: 1 alone: goes, loses both; none is second
        Due.due("day(1) with one", x.day(1), 3);
        Due.row("coast with one", people(x, 5), 0, 2, 1);
        Due.row("none held", new int[] {x.office(0, 1), x.office(1, 1)}, -1, -1);
        Due.row("nobody made", people(x, 6), 0, 2, 0);
        Due.due("nobody second", x.logged(0, 3), Due.NONE);
        SecondBest y = Due.of(THREE);
        Due.due("day(3)", y.day(3), 3);
        Due.row("day(3) as three", people(y, 5), 0, 2, 1);
        Due.due("day(30)", y.day(30), 33);
        SecondBest zero = Due.of("k0 1;p9 9 9 9;p0 0 0 0;o0;");
        zero.day(1);
        Due.due("a gift of 0 stays", zero.person(1, 0), 0);
        Due.due("days without persons", Due.of("k0 1;").day(5), 5);
    }

    private static void lawsOfContests() {
        String like = "p4 0 0 3;p4 0 0 3;p4 0 0 3;p1 0 0 0;o0;";
        SecondBest lesser = Due.of("k0 3;" + like);
        lesser.day(1);
        Due.row("law 0", people(lesser, 5), 3, 0, 0, 0);
        Due.due("law 0 makes", lesser.office(0, 1), 1);
        SecondBest all = Due.of("k2 3;" + like);
        all.day(1);
        Due.row("law 2", people(all, 5), 3, 3, 3, 0);
        Due.due("law 2 makes", all.office(0, 1), 3);
        Due.due("law 2 logs the least", all.logged(0, 2), 0);
        SecondBest daring = Due.of("k1 3;p5 0 0 3;p4 0 0 8;p4 0 0 8;o0;");
        daring.day(1);
        Due.row("law 1", people(daring, 5), 0, 3, 0);
        Due.due("law 1 makes", daring.office(0, 1), 2);
    }

    private static void theCoast() {
        SecondBest x = Due.of("k0 1;p9 0 0 0;p5 0 0 0;p1 0 0 0;o0;");
        x.day(1);
        Due.row("one day yet", people(x, 5), 1, 0, 0);
        x.day(1);
        Due.row("back at court", people(x, 5), 0, 1, 0);
        Due.due("who holds it", x.office(0, 1), 2);
        SecondBest alone = Due.of("k0 3;p1 1 1 1;");
        alone.day(1);
        Due.due("alone at the coast", alone.told(8), 0);
        alone.day(3);
        Due.due("back behind three", alone.told(8), 1);
        Due.due("one contest", alone.told(13), 1);
    }

    private static void refusedDays() {
        SecondBest x = Due.of(THREE);
        Due.due("day(0)", x.day(0), Due.OUTSIDE);
        Due.due("day(31)", x.day(31), Due.OUTSIDE);
        Due.due("drift(0)", x.drift(0), Due.OUTSIDE);
        Due.due("drift(31)", x.drift(31), Due.OUTSIDE);
        for (int far : Due.FAR) {
            Due.due("day(" + far + ")", x.day(far), Due.OUTSIDE);
            Due.due("drift(" + far + ")", x.drift(far), Due.OUTSIDE);
        }
        SecondBest none = new SecondBest();
        Due.due("day(0) without a kingdom", none.day(0), Due.OUTSIDE);
        Due.due("day(1) without a kingdom", none.day(1), Due.NOT);
        Due.due("drift(31) without a kingdom", none.drift(31), Due.OUTSIDE);
        Due.due("drift(1) without a kingdom", none.drift(1), Due.NOT);
        Due.due("nothing changed", x.told(6), 0);
        Due.due("no deed", x.told(16), 0);
        Due.due("no draw", none.seed(0), 0);
    }

    private static void efforts() {
        SecondBest x = Due.of(THREE);
        Due.due("effort(0, 9)", x.effort(0, 9), 5);
        Due.due("effort(0, 0)", x.effort(0, 0), 9);
        Due.due("effort(0, 0) again", x.effort(0, 0), 0);
        Due.row("told efforts", people(x, 4), 0, 5, 5);
        Due.due("each is a deed", x.told(16), 3);
        Due.due("effort(3, 0)", x.effort(3, 0), Due.UNKNOWN);
        Due.due("effort(-1, 0)", x.effort(-1, 0), Due.UNKNOWN);
        Due.due("effort(0, 10)", x.effort(0, 10), Due.OUTSIDE);
        Due.due("effort(0, -1)", x.effort(0, -1), Due.OUTSIDE);
        Due.due("effort(3, 10)", x.effort(3, 10), Due.UNKNOWN);
        for (int far : Due.FAR) {
            Due.due("effort(" + far + ", 0)", x.effort(far, 0), Due.UNKNOWN);
            Due.due("effort(0, " + far + ")", x.effort(0, far), Due.OUTSIDE);
        }
        Due.due("refused ones are no deeds", x.told(16), 3);
        x.send(1);
        Due.due("effort at the coast", x.effort(1, 7), 5);
    }

    private static void rain() {
        SecondBest x = Due.of(THREE);
        Due.due("rain(true)", x.rain(true), 0);
        Due.due("it rains", x.told(7), 1);
        Due.due("rain(true) again", x.rain(true), 1);
        Due.due("rain(false)", x.rain(false), 1);
        Due.due("it is dry", x.told(7), 0);
        Due.due("each is a deed", x.told(16), 3);
        Due.due("rain without a kingdom", new SecondBest().rain(false), Due.NOT);
        SecondBest y = Due.of("k0 1;p2 0 0 9;p3 0 0 4;o0;");
        // dry: 19 19; in rain: 14 17
        y.rain(true);
        y.day(1);
        Due.due("rain halves daring", y.office(0, 1), 0);
    }

    private static void teaching() {
        SecondBest x = Due.of(THREE);
        Due.due("teach(0, 1, 9)", x.teach(0, 1, 9), 1);
        Due.due("teach(0, 1, 0)", x.teach(0, 1, 0), 9);
        Due.row("gifts", new int[] {x.person(0, 0), x.person(0, 1), x.person(0, 2)}, 9, 0, 0);
        Due.due("teach(3, 0, 0)", x.teach(3, 0, 0), Due.UNKNOWN);
        Due.due("teach(-1, 0, 0)", x.teach(-1, 0, 0), Due.UNKNOWN);
        Due.due("teach(0, 3, 0)", x.teach(0, 3, 0), Due.OUTSIDE);
        Due.due("teach(0, -1, 0)", x.teach(0, -1, 0), Due.OUTSIDE);
        Due.due("teach(0, 0, 10)", x.teach(0, 0, 10), Due.OUTSIDE);
        Due.due("teach(0, 0, -1)", x.teach(0, 0, -1), Due.OUTSIDE);
        Due.due("teach(3, 3, 10)", x.teach(3, 3, 10), Due.UNKNOWN);
        for (int far : Due.FAR) {
            Due.due("teach(" + far + ", 0, 0)", x.teach(far, 0, 0), Due.UNKNOWN);
            Due.due("teach(0, " + far + ", 0)", x.teach(0, far, 0), Due.OUTSIDE);
            Due.due("teach(0, 0, " + far + ")", x.teach(0, 0, far), Due.OUTSIDE);
        }
        Due.due("two deeds", x.told(16), 2);
        x.send(2);
        Due.due("taught at the coast", x.teach(2, 2, 3), 9);
    }

    private static void sending() {
        SecondBest x = Due.of(THREE);
        x.day(1);
        Due.due("send(1)", x.send(1), 1);
        Due.due("for all days of the term", x.person(1, 5), 2);
        Due.due("its office is lost", x.office(0, 1), Due.NONE);
        Due.due("send(1) again", x.send(1), Due.NOT);
        Due.due("send(0)", x.send(0), Due.NOT);
        Due.due("send(3)", x.send(3), Due.UNKNOWN);
        Due.due("send(-1)", x.send(-1), Due.UNKNOWN);
        for (int far : Due.FAR) {
            Due.due("send(" + far + ")", x.send(far), Due.UNKNOWN);
        }
        Due.due("send(2)", x.send(2), 0);
        Due.due("three deeds", x.told(16), 3);
        x.day(1);
        Due.row("a day less for all", people(x, 5), 1, 1, 1);
    }

    private static void calling() {
        SecondBest x = Due.of(THREE);
        Due.due("recall(0) at court", x.recall(0), Due.NOT);
        x.day(2);
        Due.due("recall(2)", x.recall(2), 2);
        Due.due("recall(0)", x.recall(0), 3);
        Due.row("all at court", people(x, 5), 0, 0, 0);
        Due.due("recall(3)", x.recall(3), Due.UNKNOWN);
        Due.due("recall(-1)", x.recall(-1), Due.UNKNOWN);
        for (int far : Due.FAR) {
            Due.due("recall(" + far + ")", x.recall(far), Due.UNKNOWN);
        }
        Due.due("four deeds", x.told(16), 4);
        Due.due("who is called back has no office yet", x.person(0, 7), 0);
    }

    private static void drifting() {
        SecondBest x = Due.of(THREE);
        // draws from seed 0: 12345; 1406932606; 654583775: / 65536: 0, 21468, 9988
        Due.due("drift(1)", x.drift(1), 1);
        Due.due("the seed behind it", x.seed(654583775), 654583775);
        Due.row("the effort drawn", people(x, 4), 8, 5, 5);
        Due.due("the rain drawn", x.told(7), 1);
        Due.row("who went", people(x, 5), 2, 0, 0);
        x.rain(true);
        // 1449466924: 22117: of 3: 1; 229283573: 3498: of 10: 8; 1109335178: 16927: of 4: 3
        Due.due("drift(1) again", x.drift(1), 2);
        Due.due("the seed behind it again", x.seed(0), 1109335178);
        Due.row("the efforts drawn again", people(x, 4), 8, 8, 5);
        Due.due("no rain drawn", x.told(7), 0);
        SecondBest nobody = Due.of("k0 1;");
        Due.due("drift without persons", nobody.drift(1), 1);
        Due.due("one draw alone", nobody.seed(0), 12345);
        Due.due("a draw of 0 is rain", nobody.told(7), 1);
        SecondBest one = Due.of("k0 1;p1 1 1 1;");
        one.drift(1);
        Due.row("one alone", new int[] {one.person(0, 4), one.seed(0)}, 8, 654583775);
        SecondBest y = Due.of(THREE);
        Due.due("drift(30)", y.drift(30), 30);
        SecondBest z = Due.of(THREE);
        for (int i = 0; i < 30; i++) {
            z.drift(1);
        }
        Due.due("as thirty times one", y.seed(0), z.seed(0));
        Due.row("efforts alike", people(y, 4), people(z, 4));
        SecondBest big = Due.of("k0 1;");
        big.seed(2147483647);
        big.drift(1);
        Due.due("the greatest seed", big.seed(0), 1043980748);
    }

    private static void undoing() {
        SecondBest x = Due.of(THREE);
        Due.due("undo(0)", x.undo(0), Due.OUTSIDE);
        Due.due("undo(31)", x.undo(31), Due.OUTSIDE);
        Due.due("undo(1)", x.undo(1), Due.NOT);
        for (int far : Due.FAR) {
            Due.due("undo(" + far + ")", x.undo(far), Due.OUTSIDE);
        }
        x.day(3);
        Due.due("too many", x.undo(4), Due.NOT);
        Due.due("undo(1)", x.undo(1), 2);
        Due.due("two left", x.told(16), 2);
        Due.due("undo(2)", x.undo(2), 0);
        Due.due("none left", x.told(16), 0);
        x.day(30);
        x.day(5);
        Due.due("30 at most", x.told(16), 30);
        Due.due("undo(30)", x.undo(30), 5);
        Due.due("nothing more", x.undo(1), Due.NOT);
        Due.due("the log is as it was", x.logged(0, 0), 4);
        SecondBest y = Due.of(THREE);
        y.drift(2);
        int seed = y.seed(77);
        Due.due("a day by draws is one deed", y.told(16), 2);
        Due.due("undo by draws", y.undo(2), 0);
        Due.row("efforts as they were", people(y, 4), 5, 5, 5);
        Due.due("the seed stays", y.seed(0), 77);
        Due.due("draws were six", seed, 1109335178);
    }

    /** Each deed, undone one by one, leaves all as it was ahead of it. */
    private static void undoneInAll() {
        SecondBest x = Due.of(THREE);
        x.day(30);
        int[][] seen = new int[8][];
        for (int deed = 0; deed < 8; deed++) {
            seen[deed] = all(x);
            doDeed(x, deed);
        }
        for (int deed = 7; deed >= 0; deed--) {
            x.undo(1);
            Due.row("undone deed " + deed, all(x), seen[deed]);
        }
    }

    private static void doDeed(SecondBest x, int deed) {
        switch (deed) {
            case 0: x.effort(0, 9); break;
            case 1: x.rain(true); break;
            case 2: x.teach(2, 2, 1); break;
            case 3: x.day(1); break;
            case 4: x.drift(1); break;
            case 5: x.day(1); break;
            case 6: x.recall(Integer.numberOfTrailingZeros(~x.told(8))); break;
            default: x.send(Integer.numberOfTrailingZeros(x.told(8))); break;
        }
    }

    private static int[] all(SecondBest x) {
        int[] all = new int[120];
        int n = 0;
        for (int what = 6; what <= 13; what++) {
            all[n++] = x.told(what);
        }
        for (int p = 0; p < 3; p++) {
            for (int what = 0; what < 8; what++) {
                all[n++] = x.person(p, what);
            }
        }
        for (int o = 0; o < 2; o++) {
            all[n++] = x.office(o, 1);
        }
        for (int i = 0; i < 20; i++) {
            for (int what = 0; what < 4; what++) {
                all[n++] = x.logged(i, what);
            }
        }
        return all;
    }
}
