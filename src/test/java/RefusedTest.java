/**
 * Every refusal of every call, in three states: where several meet, the first in the document's
 * order (UNKNOWN, OUTSIDE, NOT, FULL) is answered, and what is refused changes nothing. Each refused
 * call is made on an object of its own; then all that can be asked of it is asked, and what could be
 * undone, gone back to and read as a text is looked at, beside a twin without that call.
 */
public final class RefusedTest {
    private static final String TEXT = "k1 3;p5 3 7 4;p6 3 1 0;p2 9 4 6;p5 5 5 4;d0,1,2;o0;o1;o0;";
    private static final String[] NUMBERS = {"MIN", "-1000000001", "-2", "-1", "MAX"};

    private static int refused = 0;

    public static void main(String[] args) {
        withoutAKingdom();
        inAKingdom();
        whenAllIsFull();
        Due.due("some hundreds of refused calls", refused > 500 ? 1 : 0, 1);
        Due.end("RefusedTest");
    }

    // ---- three states

    /** A text half told, something seen, an image, a seed. */
    private static Run nothing() {
        return Run.on("without a kingdom").feed("k2 4;p1 2 3 4;").rows("see(1, 9) = 1; seed(77) = 0; keep(0) = 1; seed(78) = 77");
    }

    /** Persons 1 and 2 are at the coast, 0 and 3 at court; image 0 is kept, image 1 not; 4 deeds can be undone. */
    private static Run kingdom() {
        Run x = Run.of("in a kingdom", TEXT).rows("seed(77) = 0; keep(0) = 1; day(2) = 2; rain(true) = 0; effort(3, 8) = 5");
        x.rows("told(8) = 9; told(16) = 4; see(1, 9) = 1; write(0, 0) = 1; write(1, NONE) = 2; seed(78) = 77");
        return x.feed("k2 4;p1 2 3 4;");
    }

    /** No letter, nothing seen, no entry can be taken any more; 30 deeds can be undone. */
    private static Run full() {
        Run x = Run.of("when all is full", TEXT).rows("keep(1) = 1; day(30) = 30; day(1) = 31; seed(77) = 0");
        x.rows("see(1, 9); see(1, 9); see(1, 9); see(1, 9); see(1, 9); see(1, 9) = 6");
        for (int i = 1; i <= 20; i++) {
            x.rows("write(" + i % 3 + ", " + (i % 5 - 1) + ") = " + i);
        }
        return x.feed("k2 4;p1 2 3 4;").feed(" ".repeat(226)).rows("told(5) = 240; told(16) = 30");
    }

    private static Run state(int which) {
        return which == 0 ? nothing() : which == 1 ? kingdom() : full();
    }

    // ---- one refused call

    private static void refuse(int which, String rows, String refusal) {
        for (String call : rows.split(";")) {
            if (!call.isBlank()) {
                refused++;
                Run x = state(which).rows(call + " = " + refusal);
                alike(which, call.trim(), x, state(which));
            }
        }
    }

    private static void alike(int which, String call, Run x, Run y) {
        String[] asked = which == 2
            ? new String[] {"told 17 1", "fault 1 1", "person 4 8", "office 3 2", "logged 2 4", "judge 1 1", "truly 2 1"}
            : new String[] {"told 17 1", "fault 1 1", "person 4 8", "office 3 2", "ahead 4 1", "logged 3 4", "judge 1 1", "truly 2 1",
                "tryNext 1 1", "mark 4 3"};
        for (String ask : asked) {
            compare(call, ask, x, y);
        }
        // from here on each asking changes what there is, in both alike
        String undone = which == 2 ? "undo 31 1" : "undo 2 1";
        for (String ask : new String[] {"seed 1 1", undone, "person 4 8", "goBack 2 1", "told 17 1", "seed 1 1", "tear 1 1"}) {
            compare(call, ask, x, y);
        }
        for (String ask : new String[] {"kingdom 1 1", "fault 1 1", "told 5 1", "person 1 4"}) {
            compare(call, ask, x, y);
        }
    }

    /** Asks "name a b": the call name(i, j) for all i below a and j below b. */
    private static void compare(String call, String ask, Run x, Run y) {
        String[] parts = ask.split(" ");
        int a = Integer.parseInt(parts[1]);
        int b = Integer.parseInt(parts[2]);
        for (int i = 0; i < a; i++) {
            for (int j = 0; j < b; j++) {
                Due.due("behind the refused " + call + ": " + Run.told(parts[0], 2, i, j, 0), x.call(parts[0], i, j, 0), y.call(parts[0], i, j, 0));
            }
        }
    }

    /** The calls with each wrong number, and each number more, in the place of '?'. */
    private static String each(String call, String... more) {
        StringBuilder all = new StringBuilder();
        for (String number : NUMBERS) {
            all.append(call.replace("?", number)).append(';');
        }
        for (String number : more) {
            all.append(call.replace("?", number)).append(';');
        }
        return all.toString();
    }

    // ---- without a KINGDOM

    private static void withoutAKingdom() {
        refuse(0, "feed(-1); feed(256); feed(MIN); feed(MAX)", "OUTSIDE");
        refuse(0, each("told(?)", "17") + "logged(0, -1); logged(0, 4); logged(5, 4)", "OUTSIDE");
        refuse(0, "person(0, 0); person(0, 8); office(0, 0); office(0, 2); effort(0, 0); effort(0, 10)", "UNKNOWN");
        refuse(0, "teach(0, 0, 0); teach(0, 3, 0); teach(0, 0, 10); send(0); send(NONE); recall(0); recall(NONE)", "UNKNOWN");
        refuse(0, "mark(0, 0); mark(0, 3); place(0, 0); place(0, 3); holds(0, 0); holds(0, 61); efforts(0, 0); efforts(0, 3)", "UNKNOWN");
        refuse(0, "letWin(0, 0, 0); letWin(0, 3, 0); letWin(0, 0, 2); win(0, 0, 1); win(0, 0, 0); next(0); beats(0, 1)", "UNKNOWN");
        refuse(0, "write(0, 0); write(0, NONE); write(NONE, NONE)", "UNKNOWN");
        refuse(0, "ahead(0); ahead(60); day(1); day(30); rain(true); rain(false); drift(1); drift(30); undo(1); undo(30); goBack(1)", "NOT");
        refuse(0, "ahead(-1); ahead(61); day(0); day(31); drift(0); drift(31); undo(0); undo(31)", "OUTSIDE");
        refuse(0, "wouldBe(3, 0); wouldBe(0, 2); restless(3); restless(-1); spread(3); spread(-1); dry(61, 0); dry(0, 101)", "OUTSIDE");
        refuse(0, "see(10, 0); see(0, 100); truly(2); seed(-1)", "OUTSIDE");
        refuse(0, "keep(2); keep(-1); goBack(2); goBack(-1)", "UNKNOWN");
    }

    // ---- in a KINGDOM

    private static void inAKingdom() {
        unknownPersons();
        unknownOffices();
        outside();
        notNow();
        refuse(1, "beats(0, 0); beats(3, 3)", "UNKNOWN");
        refuse(1, each("keep(?)", "2") + each("goBack(?)", "2"), "UNKNOWN");
    }

    private static void unknownPersons() {
        String[] calls = {"person(?, 0)", "person(?, 8)", "effort(?, 0)", "effort(?, 10)", "teach(?, 0, 0)", "teach(?, 3, 0)", "teach(?, 0, 10)",
            "send(?)", "recall(?)", "mark(?, 0)", "mark(?, 3)", "place(?, 0)", "place(?, 3)", "efforts(?, 0)", "efforts(?, 3)",
            "letWin(?, 0, 0)", "letWin(?, 3, 0)", "letWin(?, 0, 2)", "win(?, 0, 1)", "win(?, 0, 0)", "win(?, 3, 0)", "next(?)", "beats(?, 0)",
            "beats(0, ?)", "beats(?, ?)"};
        for (String call : calls) {
            refuse(1, each(call, "4"), "UNKNOWN");
        }
        // NONE may be written
        refuse(1, "write(0, 4); write(0, -2); write(0, MIN); write(0, MAX); write(0, UNKNOWN)", "UNKNOWN");
    }

    private static void unknownOffices() {
        String[] calls = {"office(?, 0)", "office(?, 2)", "holds(?, 0)", "holds(?, 61)", "win(0, ?, 1)", "win(0, ?, 0)", "write(?, 0)", "write(?, NONE)",
            "write(?, 4)"};
        for (String call : calls) {
            refuse(1, each(call, "3"), "UNKNOWN");
        }
    }

    private static void outside() {
        refuse(1, each("feed(?)", "256"), "OUTSIDE");
        refuse(1, each("told(?)", "17") + each("person(0, ?)", "8") + each("office(0, ?)", "2"), "OUTSIDE");
        refuse(1, each("ahead(?)", "61") + each("logged(0, ?)", "4") + each("logged(9, ?)", "4"), "OUTSIDE");
        refuse(1, each("day(?)", "0", "31") + each("drift(?)", "0", "31") + each("undo(?)", "0", "31"), "OUTSIDE");
        refuse(1, each("effort(0, ?)", "10") + each("teach(0, ?, 0)", "3") + each("teach(0, 0, ?)", "10"), "OUTSIDE");
        refuse(1, each("mark(0, ?)", "3") + each("place(0, ?)", "3") + each("place(1, ?)", "3"), "OUTSIDE");
        refuse(1, each("wouldBe(?, 0)", "3") + each("wouldBe(0, ?)", "2") + each("holds(0, ?)", "61"), "OUTSIDE");
        refuse(1, each("efforts(0, ?)", "3") + each("restless(?)", "3") + each("letWin(0, ?, 0)", "3") + each("letWin(0, 0, ?)", "2"), "OUTSIDE");
        // ahead of NOT: 1 and 2 are at the coast
        refuse(1, each("efforts(1, ?)", "3") + each("letWin(2, ?, 0)", "3") + each("letWin(2, 0, ?)", "2"), "OUTSIDE");
        refuse(1, each("win(0, 0, ?)", "0", "61") + each("spread(?)", "3") + each("dry(?, 0)", "61") + each("dry(0, ?)", "101"), "OUTSIDE");
        refuse(1, each("see(?, 0)", "10") + each("see(0, ?)", "100") + each("truly(?)", "2") + each("seed(?)").replace("seed(MAX);", ""), "OUTSIDE");
    }

    private static void notNow() {
        refuse(1, "send(1); send(2); recall(0); recall(3); undo(5); undo(30); goBack(1)", "NOT");
        refuse(1, "efforts(1, 0); efforts(2, 2); letWin(1, 0, 0); letWin(2, 2, 1)", "NOT");
    }

    // ---- FULL, and what comes ahead of it

    private static void whenAllIsFull() {
        refuse(2, "feed(0); feed(107); feed(255); see(0, 0); see(9, 99); write(0, 0); write(2, 3); write(0, NONE)", "FULL");
        refuse(2, "feed(-1); feed(256); see(-1, 0); see(10, 0); see(0, -1); see(0, 100); undo(31)", "OUTSIDE");
        refuse(2, "write(3, 0); write(-1, 0); write(0, 4); write(0, -2); write(3, NONE)", "UNKNOWN");
        refuse(2, "goBack(0)", "NOT");
    }
}
