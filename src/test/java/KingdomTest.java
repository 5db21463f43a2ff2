/** Promises 1 to 9: a new object, the text and its faults, what is told of the kingdom. */
public final class KingdomTest {
    private static final String FOUR = "k0 2;p5 3 7 4;p6 3 1 0;p2 9 4 6;p5 5 5 4;d0,1,2;o0;o1;o0;";

    public static void main(String[] args) {
        aNewObject();
        feeding();
        texts();
        cannotStand();
        wrongNumbers();
        tooMany();
        theFirstFault();
        aTextTakesThePlace();
        aFaultChangesNothing();
        told();
        persons();
        offices();
        ahead();
        logged();
        Due.end("KingdomTest");
    }

    private static void aNewObject() {
        SecondBest x = new SecondBest();
        int[] want = {-1, 0, 0, 0, 0, 0, 0, 0, 0, 0, -1, 0, 0, 0, 0, 0, 0};
        for (int what = 0; what < want.length; what++) {
            Due.due("new told(" + what + ")", x.told(what), want[what]);
        }
        Due.due("new fault()", x.fault(), Due.NONE);
        Due.due("new person", x.person(0, 0), Due.UNKNOWN);
        Due.due("new office", x.office(0, 0), Due.UNKNOWN);
        Due.due("new ahead", x.ahead(0), Due.NOT);
        Due.due("new logged", x.logged(0, 0), Due.NONE);
        Due.due("new day", x.day(1), Due.NOT);
        Due.due("new drift", x.drift(1), Due.NOT);
        Due.due("new rain", x.rain(true), Due.NOT);
        Due.due("new undo", x.undo(1), Due.NOT);
        Due.due("new goBack", x.goBack(0), Due.NOT);
        Due.due("new wouldBe first", x.wouldBe(0, 0), 0);
        Due.due("new wouldBe second", x.wouldBe(0, 1), Due.NONE);
        Due.due("new restless", x.restless(0), 0);
        Due.due("new spread", x.spread(0), 0);
        Due.due("new judge", x.judge(), Due.NONE);
        Due.due("new seed", x.seed(7), 0);
    }

    private static void feeding() {
        SecondBest x = new SecondBest();
        Due.due("feed(-1)", x.feed(-1), Due.OUTSIDE);
        Due.due("feed(256)", x.feed(256), Due.OUTSIDE);
        for (int far : Due.FAR) {
            Due.due("feed(" + far + ")", x.feed(far), Due.OUTSIDE);
        }
        Due.due("feed(0)", x.feed(0), 1);
        Due.due("feed(255)", x.feed(255), 2);
        for (int i = 3; i <= 240; i++) {
            Due.due("feed to " + i, x.feed(32), i);
        }
        Due.due("feed a 241st", x.feed(32), Due.FULL);
        Due.due("feed outside ahead of full", x.feed(256), Due.OUTSIDE);
        Due.due("told(5) of a full text", x.told(5), 240);
        Due.due("kingdom of a full text", x.kingdom(), -11);
        Due.due("told(5) behind it", x.told(5), 0);
        Due.due("feed behind it", x.feed(107), 1);
    }

    private static void faultOf(String text, int number, int at) {
        SecondBest x = new SecondBest();
        Due.due("kingdom of '" + text + "'", Due.tell(x, text), -10 - number);
        Due.due("fault of '" + text + "'", x.fault(), at);
    }

    private static void stands(String text, int persons) {
        SecondBest x = new SecondBest();
        Due.due("kingdom of '" + text + "'", Due.tell(x, text), persons);
        Due.due("fault of '" + text + "'", x.fault(), Due.NONE);
    }

    private static void texts() {
        stands("", 0);
        // blanks may stand anywhere: alone they are read as the empty text
        stands("   ", 0);
        stands("k0 1;", 0);
        stands("k2 9;", 0);
        stands("  k  001   009  ;  ", 0);
        stands("k0 1;p9 9 9 9;p000 00 0 009;", 2);
        stands("k0 1;o2;d2;p1 1 1 1;", 1);
        stands("k0 1; d 0 , 1 , 2 ;", 0);
        stands("k0 1;d0,1,2,0,1,2,0,1,2,0,1,2;", 0);
        stands("k0 1;p0 0 0 0;p0 0 0 0;p0 0 0 0;p0 0 0 0;p0 0 0 0;p0 0 0 0;p0 0 0 0;", 7);
        stands("k0 1;o0;o1;o2;o0;", 0);
        SecondBest x = Due.of("k2 9;o2;d2,1;o0;p1 2 3 4;");
        Due.row("all of a text", new int[] {x.told(0), x.told(1), x.told(2), x.told(3), x.told(4)}, 2, 9, 1, 2, 2);
        Due.row("offices and turns", new int[] {x.office(0, 0), x.office(1, 0), x.ahead(0), x.ahead(1)}, 2, 0, 2, 1);
    }

    private static void cannotStand() {
        faultOf("p1 1 1 1;", 1, 0);
        faultOf("  d0;", 1, 2);
        faultOf("x", 1, 0);
        faultOf("K0 1;", 1, 0);
        faultOf(";", 1, 0);
        faultOf("k", 1, 1);
        faultOf("k  ", 1, 3);
        faultOf("k0", 1, 2);
        faultOf("k0 1", 1, 4);
        faultOf("k0 1  ", 1, 6);
        faultOf("k01;", 1, 3);
        faultOf("k0,1;", 1, 2);
        faultOf("k0 1 1;", 1, 5);
        faultOf("k0 1;;", 1, 5);
        faultOf("k0 1;x", 1, 5);
        faultOf("k0 1;7", 1, 5);
        faultOf("k0 1;\np0 0 0 0;", 1, 5);
        faultOf("k0 1;p1 1 1;", 1, 11);
        faultOf("k0 1;p1 1 1 1 1;", 1, 14);
        faultOf("k0 1;p-1 1 1 1;", 1, 6);
        faultOf("k0 1;d;", 1, 6);
        faultOf("k0 1;d0 1;", 1, 8);
        faultOf("k0 1;d0,;", 1, 8);
        faultOf("k0 1;d,0;", 1, 6);
        faultOf("k0 1;o;", 1, 6);
        faultOf("k0 1;o0 0;", 1, 8);
        faultOf("k0 1;d0,1,2,0,1,2,0,1,2,0,1,2,0;", 1, 29);
        faultOf("k0 1;d0,1,2,0,1,2,0,1,2,0,1,2 , 0;", 1, 30);
    }

    private static void wrongNumbers() {
        faultOf("k3 1;", 2, 1);
        faultOf("k0 0;", 2, 3);
        faultOf("k0 10;", 2, 3);
        faultOf("k 0000 1;", 2, 2);
        faultOf("k999 1;", 2, 1);
        faultOf("k0 0001;", 2, 3);
        faultOf("k0 4294967297;", 2, 3);
        faultOf("k0 1;p10 0 0 0;", 2, 6);
        faultOf("k0 1;p0 10 0 0;", 2, 8);
        faultOf("k0 1;p0 0 10 0;", 2, 10);
        faultOf("k0 1;p0 0 0 10;", 2, 12);
        faultOf("k0 1;d3;", 2, 6);
        faultOf("k0 1;d0, 3;", 2, 9);
        faultOf("k0 1;o3;", 2, 6);
        faultOf("k0 1;o0002;", 2, 6);
    }

    private static void tooMany() {
        faultOf("k0 1;k0 1;", 3, 5);
        faultOf("k0 1; k", 3, 6);
        faultOf("k0 1;d0;d0;", 3, 8);
        String six = "k0 1;p0 0 0 0;p0 0 0 0;p0 0 0 0;p0 0 0 0;p0 0 0 0;p0 0 0 0;";
        faultOf(six + "p0 0 0 0;p0 0 0 0;", 3, 68);
        faultOf("k0 1;o0;o0;o0;o0;o0;", 3, 17);
    }

    private static void theFirstFault() {
        faultOf("k3 0;x", 2, 1);
        faultOf("k3x", 2, 1);
        faultOf("k0 1 9999;", 1, 5);
        faultOf("k0 k", 1, 3);
        faultOf("k0 1;d0;d", 3, 8);
        faultOf("k0 1;p1 1 k", 1, 10);
        faultOf("k0 1;d0,3,x;k", 2, 8);
    }

    private static void aTextTakesThePlace() {
        SecondBest x = Due.of(FOUR);
        x.seed(5);
        x.keep(0);
        x.rain(true);
        x.see(1, 1);
        x.write(0, 0);
        x.day(3);
        Due.due("a second text", Due.tell(x, "k1 3;p1 2 3 4;"), 1);
        int[] want = {1, 3, 1, 0, 0, 0, 0, 0, 1, 0, -1, 0, 0, 0, 0, 0, 0};
        for (int what = 0; what < want.length; what++) {
            Due.due("second text told(" + what + ")", x.told(what), want[what]);
        }
        int[] person = {1, 2, 3, 4, 5, 0, 0, 0};
        for (int what = 0; what < person.length; what++) {
            Due.due("second text person(0, " + what + ")", x.person(0, what), person[what]);
        }
        Due.due("images are gone", x.goBack(0), Due.NOT);
        Due.due("what could be undone is gone", x.undo(1), Due.NOT);
        Due.due("the log is gone", x.logged(0, 0), Due.NONE);
        Due.due("the seed stays", x.seed(9), 5);
        Due.due("a third text", Due.tell(x, "k0 1;"), 0);
        Due.row("nothing is left of the first", new int[] {x.told(2), x.told(3), x.told(4), x.ahead(1)}, 0, 0, 0, 0);
        x.keep(1);
        Due.due("an empty text", x.kingdom(), 0);
        Due.due("no kingdom", x.told(0), Due.NONE);
        Due.due("no term", x.told(1), 0);
        Due.due("no person", x.person(0, 0), Due.UNKNOWN);
        Due.due("no days", x.day(1), Due.NOT);
        Due.due("no image", x.goBack(1), Due.NOT);
        Due.due("the seed stays again", x.seed(1), 9);
    }

    private static void aFaultChangesNothing() {
        SecondBest x = Due.of(FOUR);
        x.keep(0);
        x.day(2);
        x.see(1, 1);
        x.write(0, 0);
        int[] was = new int[17];
        for (int what = 0; what < 17; what++) {
            was[what] = x.told(what);
        }
        Due.due("a text with a fault late", Due.tell(x, "k1 9;p9 9 9 9;p1 1 1 1;d2;o2;x"), -11);
        Due.due("its fault", x.fault(), 29);
        for (int what = 0; what < 17; what++) {
            Due.due("as it was: told(" + what + ")", x.told(what), was[what]);
        }
        Due.due("gift as it was", x.person(2, 1), 9);
        Due.due("daring as it was", x.person(2, 3), 6);
        Due.due("kind of days as it was", x.ahead(0), 2);
        Due.due("undone as it was", x.undo(2), 0);
        Due.due("image as it was", x.goBack(0), 1);
        Due.due("a good one behind it", Due.tell(x, "k1 9;"), 0);
        Due.due("no fault now", x.fault(), Due.NONE);
    }

    private static void told() {
        SecondBest x = Due.of(FOUR);
        int[] want = {0, 2, 4, 3, 3, 0, 0, 0, 15, 7, 1, 0, 0, 0, 0, 0, 0};
        for (int what = 0; what < want.length; what++) {
            Due.due("told(" + what + ")", x.told(what), want[what]);
        }
        x.day(2);
        x.rain(true);
        x.feed('k');
        x.see(1, 1);
        x.see(2, 2);
        x.write(0, 0);
        // day 0 (kind 0): 29 30 16 29: 1 goes, 0 is made; day 1 (kind 1): 19 - 51 29: 2 goes, 3 is made
        int[] later = {0, 2, 4, 3, 3, 1, 2, 1, 9, 0, 3, 0, 25, 2, 2, 1, 3};
        for (int what = 0; what < later.length; what++) {
            Due.due("later told(" + what + ")", x.told(what), later[what]);
        }
        Due.due("told(17)", x.told(17), Due.OUTSIDE);
        Due.due("told(-1)", x.told(-1), Due.OUTSIDE);
        for (int far : Due.FAR) {
            Due.due("told(" + far + ")", x.told(far), Due.OUTSIDE);
        }
        nearlyAndRings();
    }

    private static void nearlyAndRings() {
        Due.due("nearly of one", Due.of("k0 1;p1 1 1 1;").told(10), Due.NONE);
        Due.due("nearly of two", Due.of("k0 1;p1 1 1 1;p1 1 1 1;").told(10), 1);
        SecondBest x = Due.of("k0 1;p9 9 9 0;p5 5 5 0;p1 1 1 0;");
        x.day(1);
        Due.due("nearly when 1 leads", x.told(10), 0);
        x.day(2);
        // day 1: 1 goes, 2 is made; day 2: 0 goes, 2 is made
        Due.due("nearly when 2 leads", x.told(10), 1);
        Due.due("one ring", Due.of("k0 1;p3 2 1 0;p2 1 3 0;p1 3 2 0;").told(11), 1);
        Due.due("the ring the other way", Due.of("k0 1;p1 3 2 0;p2 1 3 0;p3 2 1 0;").told(11), 1);
        Due.due("no ring", Due.of("k0 1;p3 3 3 0;p2 2 2 0;p1 1 1 0;").told(11), 0);
        Due.due("two rings", Due.of("k0 1;p3 2 1 0;p2 1 3 0;p1 3 2 0;p1 3 2 9;").told(11), 2);
        SecondBest y = Due.of("k0 1;p3 2 1 0;p2 1 3 0;p1 3 2 0;");
        y.send(1);
        Due.due("who is at the coast is in a ring, too", y.told(11), 1);
        Due.due("brilliant", y.told(12), 6);
        y.send(0);
        Due.due("more brilliant", y.told(12), 12);
    }

    private static void persons() {
        SecondBest x = Due.of(FOUR);
        int[] want = {2, 9, 4, 6, 5, 0, 0, 0};
        for (int what = 0; what < want.length; what++) {
            Due.due("person(2, " + what + ")", x.person(2, what), want[what]);
        }
        x.day(1);
        int[] made = {4, 3, 7, 4, 5, 0, 1, 5};
        for (int what = 0; what < made.length; what++) {
            Due.due("made person(0, " + what + ")", x.person(0, what), made[what]);
        }
        Due.due("days at the coast", x.person(1, 5), 2);
        Due.due("person(4, 0)", x.person(4, 0), Due.UNKNOWN);
        Due.due("person(-1, 0)", x.person(-1, 0), Due.UNKNOWN);
        Due.due("person(0, 8)", x.person(0, 8), Due.OUTSIDE);
        Due.due("person(0, -1)", x.person(0, -1), Due.OUTSIDE);
        Due.due("person(4, 8)", x.person(4, 8), Due.UNKNOWN);
        for (int far : Due.FAR) {
            Due.due("person(" + far + ", 0)", x.person(far, 0), Due.UNKNOWN);
            Due.due("person(0, " + far + ")", x.person(0, far), Due.OUTSIDE);
        }
    }

    private static void offices() {
        SecondBest x = Due.of(FOUR);
        Due.row("offices", new int[] {x.office(0, 0), x.office(1, 0), x.office(2, 0), x.office(0, 1)}, 0, 1, 0, -1);
        x.day(1);
        Due.row("held", new int[] {x.office(0, 1), x.office(1, 1), x.office(2, 1)}, 0, -1, 0);
        Due.due("office(3, 0)", x.office(3, 0), Due.UNKNOWN);
        Due.due("office(-1, 0)", x.office(-1, 0), Due.UNKNOWN);
        Due.due("office(0, 2)", x.office(0, 2), Due.OUTSIDE);
        Due.due("office(0, -1)", x.office(0, -1), Due.OUTSIDE);
        Due.due("office(3, 2)", x.office(3, 2), Due.UNKNOWN);
        for (int far : Due.FAR) {
            Due.due("office(" + far + ", 0)", x.office(far, 0), Due.UNKNOWN);
            Due.due("office(0, " + far + ")", x.office(0, far), Due.OUTSIDE);
        }
    }

    private static void ahead() {
        SecondBest x = Due.of("k0 1;d2,1;");
        Due.row("turns", new int[] {x.ahead(0), x.ahead(1), x.ahead(2), x.ahead(59), x.ahead(60)}, 2, 1, 2, 1, 2);
        x.day(1);
        Due.row("a day on", new int[] {x.ahead(0), x.ahead(1)}, 1, 2);
        Due.due("untold", Due.of("k0 1;").ahead(3), 0);
        Due.due("ahead(61)", x.ahead(61), Due.OUTSIDE);
        Due.due("ahead(-1)", x.ahead(-1), Due.OUTSIDE);
        Due.due("outside without a kingdom", new SecondBest().ahead(61), Due.OUTSIDE);
        for (int far : Due.FAR) {
            Due.due("ahead(" + far + ")", x.ahead(far), Due.OUTSIDE);
        }
    }

    private static void logged() {
        SecondBest x = Due.of("k2 1;d1,0;p1 2 3 0;p1 2 3 0;");
        x.day(1);
        Due.row("all first", new int[] {x.logged(0, 0), x.logged(0, 1), x.logged(0, 2), x.logged(0, 3)}, 0, 1, 0, -1);
        x.day(1);
        Due.due("no contest, no entry", x.told(13), 1);
        Due.due("no such entry", x.logged(1, 0), Due.NONE);
        Due.due("logged(-1, 0)", x.logged(-1, 0), Due.NONE);
        Due.due("logged(0, 4)", x.logged(0, 4), Due.OUTSIDE);
        Due.due("logged(0, -1)", x.logged(0, -1), Due.OUTSIDE);
        Due.due("logged(99, 4)", x.logged(99, 4), Due.OUTSIDE);
        for (int far : Due.FAR) {
            Due.due("logged(" + far + ", 0)", x.logged(far, 0), Due.NONE);
            Due.due("logged(0, " + far + ")", x.logged(0, far), Due.OUTSIDE);
        }
        SecondBest y = Due.of(FOUR);
        y.day(30);
        Due.due("20 at most", y.told(13), 20);
        for (int i = 0; i < 20; i++) {
            Due.due("day of entry " + i, y.logged(i, 0), 29 - i);
            Due.due("kind of entry " + i, y.logged(i, 1), (29 - i) % 3);
        }
        Due.due("a 21st entry", y.logged(20, 0), Due.NONE);
        SecondBest z = Due.of(FOUR);
        z.day(2);
        Due.row("latest first", new int[] {z.logged(0, 2), z.logged(0, 3), z.logged(1, 2), z.logged(1, 3)}, 2, 3, 1, 0);
    }
}
