/** Promises 30 to 38: what was seen, the book, the seed, images. */
public final class SeenTest {
    private static final String FOUR = "k0 2;p5 3 7 4;p6 3 1 0;p2 9 4 6;p5 5 5 4;d0,1,2;o0;o1;o0;";

    public static void main(String[] args) {
        seeing();
        truly();
        trying();
        writing();
        judging();
        tearing();
        seeds();
        keeping();
        goingBack();
        Due.end("SeenTest");
    }

    private static void seeing() {
        SecondBest x = new SecondBest();
        Due.due("see(10, 0)", x.see(10, 0), Due.OUTSIDE);
        Due.due("see(-1, 0)", x.see(-1, 0), Due.OUTSIDE);
        Due.due("see(0, 100)", x.see(0, 100), Due.OUTSIDE);
        Due.due("see(0, -1)", x.see(0, -1), Due.OUTSIDE);
        for (int far : Due.FAR) {
            Due.due("see(" + far + ", 0)", x.see(far, 0), Due.OUTSIDE);
            Due.due("see(0, " + far + ")", x.see(0, far), Due.OUTSIDE);
        }
        Due.due("see(0, 0)", x.see(0, 0), 1);
        for (int i = 2; i <= 6; i++) {
            Due.due("see to " + i, x.see(9, 99), i);
        }
        Due.due("a seventh", x.see(9, 99), Due.FULL);
        Due.due("outside ahead of full", x.see(10, 0), Due.OUTSIDE);
        Due.due("told(14)", x.told(14), 6);
    }

    private static void truly() {
        SecondBest x = new SecondBest();
        Due.row("nothing seen", new int[] {x.truly(0), x.truly(1)}, 100, 0);
        x.see(0, 7);
        Due.row("daring 7", new int[] {x.truly(0), x.truly(1)}, 10, 7);
        x.see(3, 22);
        Due.row("gift 5", new int[] {x.truly(0), x.truly(1)}, 1, 57);
        x.see(1, 13);
        Due.row("at odds", new int[] {x.truly(0), x.truly(1)}, 0, -1);
        SecondBest y = new SecondBest();
        y.see(5, 29);
        Due.row("two fit", new int[] {y.truly(0), y.truly(1)}, 2, 49);
        SecondBest z = new SecondBest();
        z.see(9, 90);
        Due.row("the most", new int[] {z.truly(0), z.truly(1)}, 1, 99);
        z.tear();
        z.see(9, 99);
        Due.row("above the most", new int[] {z.truly(0), z.truly(1)}, 0, -1);
        z.tear();
        z.see(9, 90);
        z.see(8, 80);
        Due.row("a gift of 10 is none", new int[] {z.truly(0), z.truly(1)}, 0, -1);
        Due.due("truly(2)", x.truly(2), Due.OUTSIDE);
        Due.due("truly(-1)", x.truly(-1), Due.OUTSIDE);
        for (int far : Due.FAR) {
            Due.due("truly(" + far + ")", x.truly(far), Due.OUTSIDE);
        }
    }

    private static void trying() {
        SecondBest x = new SecondBest();
        Due.due("all of them", x.tryNext(), 5);
        x.see(0, 7);
        Due.due("gifts alone", x.tryNext(), 1);
        x.see(1, 9);
        Due.due("one left", x.tryNext(), Due.NONE);
        x.see(1, 8);
        Due.due("none left", x.tryNext(), Due.NONE);
        SecondBest y = new SecondBest();
        y.see(1, 9);
        // ten pairs with g + d = 9: all differ in d
        Due.due("darings apart", y.tryNext(), 0);
    }

    private static void writing() {
        SecondBest x = Due.of(FOUR);
        Due.due("write(3, 0)", x.write(3, 0), Due.UNKNOWN);
        Due.due("write(-1, 0)", x.write(-1, 0), Due.UNKNOWN);
        Due.due("write(0, 4)", x.write(0, 4), Due.UNKNOWN);
        Due.due("write(0, -2)", x.write(0, -2), Due.UNKNOWN);
        for (int far : Due.FAR) {
            Due.due("write(" + far + ", 0)", x.write(far, 0), Due.UNKNOWN);
            Due.due("write(0, " + far + ")", x.write(0, far), Due.UNKNOWN);
        }
        Due.due("without a kingdom", new SecondBest().write(0, Due.NONE), Due.UNKNOWN);
        for (int i = 1; i <= 20; i++) {
            Due.due("write to " + i, x.write(i % 3, i % 5 - 1), i);
        }
        Due.due("a 21st", x.write(0, 0), Due.FULL);
        Due.due("unknown ahead of full", x.write(3, 0), Due.UNKNOWN);
        Due.due("told(15)", x.told(15), 20);
    }

    private static void judging() {
        SecondBest x = Due.of(FOUR);
        Due.due("no book", x.judge(), Due.NONE);
        x.write(0, Due.NONE);
        x.write(1, Due.NONE);
        Due.due("all so", x.judge(), Due.NONE);
        x.write(2, 0);
        Due.due("the third", x.judge(), 2);
        x.day(1);
        Due.due("the first now", x.judge(), 0);
        SecondBest y = Due.of(FOUR);
        y.write(2, 0);
        y.write(1, Due.NONE);
        y.write(0, 0);
        y.day(1);
        Due.due("as told", y.judge(), Due.NONE);
        y.undo(1);
        Due.due("the book is not undone", y.judge(), 0);
    }

    private static void tearing() {
        SecondBest x = Due.of(FOUR);
        Due.due("nothing to tear", x.tear(), 0);
        x.see(1, 1);
        x.see(2, 2);
        x.write(0, 0);
        Due.due("both", x.tear(), 3);
        Due.row("none left", new int[] {x.told(14), x.told(15), x.truly(0), x.judge()}, 0, 0, 100, -1);
        Due.due("torn", x.tear(), 0);
        x.see(1, 2);
        x.day(1);
        x.undo(1);
        Due.due("what is seen is not undone", x.told(14), 1);
    }

    private static void seeds() {
        SecondBest x = new SecondBest();
        Due.due("seed(5)", x.seed(5), 0);
        Due.due("seed(2147483647)", x.seed(2147483647), 5);
        Due.due("seed(-1)", x.seed(-1), Due.OUTSIDE);
        Due.due("seed(least)", x.seed(Integer.MIN_VALUE), Due.OUTSIDE);
        Due.due("seed(0)", x.seed(0), 2147483647);
    }

    private static void keeping() {
        SecondBest x = Due.of(FOUR);
        x.day(2);
        Due.due("keep(0)", x.keep(0), 1);
        Due.due("nothing can be undone", x.told(16), 0);
        Due.due("undo(1)", x.undo(1), Due.NOT);
        Due.due("keep(2)", x.keep(2), Due.UNKNOWN);
        Due.due("keep(-1)", x.keep(-1), Due.UNKNOWN);
        for (int far : Due.FAR) {
            Due.due("keep(" + far + ")", x.keep(far), Due.UNKNOWN);
            Due.due("goBack(" + far + ")", x.goBack(far), Due.UNKNOWN);
        }
        x.day(1);
        x.keep(2);
        Due.due("refused, what can be undone stays", x.told(16), 1);
        Due.due("without a kingdom", new SecondBest().keep(1), 1);
    }

    private static void goingBack() {
        SecondBest x = Due.of(FOUR);
        Due.due("goBack(0) unkept", x.goBack(0), Due.NOT);
        Due.due("goBack(2)", x.goBack(2), Due.UNKNOWN);
        Due.due("goBack(-1)", x.goBack(-1), Due.UNKNOWN);
        x.day(2);
        x.seed(11);
        x.rain(true);
        x.teach(0, 2, 1);
        x.effort(0, 3);
        x.keep(0);
        Due.due("goBack(1) unkept", x.goBack(1), Due.NOT);
        x.write(0, 0);
        x.see(1, 1);
        x.drift(9);
        x.keep(1);
        Due.due("goBack(0)", x.goBack(0), 1);
        Due.row("as kept", new int[] {x.told(6), x.told(7), x.told(8), x.told(13), x.told(16)}, 2, 1, 9, 2, 0);
        Due.row("persons as kept", new int[] {x.person(0, 2), x.person(0, 4), x.person(3, 6), x.office(0, 1)}, 1, 3, 1, 0);
        Due.row("the log as kept", new int[] {x.logged(0, 0), x.logged(1, 3), x.logged(2, 0)}, 1, 0, -1);
        Due.due("the seed as kept", x.seed(12), 11);
        Due.row("seen and the book stay", new int[] {x.told(14), x.told(15)}, 1, 1);
        x.day(1);
        Due.due("goBack(0) again", x.goBack(0), 1);
        Due.due("again as kept", x.told(6), 2);
        Due.due("undo behind it", x.undo(1), Due.NOT);
        Due.due("goBack(1)", x.goBack(1), 1);
        Due.due("the other image", x.told(6), 11);
    }
}
