/** Any call of the face by its name, so that tests can hold calls in rows and tables. */
final class Calls {
    private Calls() {
    }

    /** Numbers that the call does not take are left aside; rain(0) is rain(false). */
    static int answer(SecondBest x, String name, int a, int b, int c) {
        switch (name) {
            case "feed": return x.feed(a);
            case "kingdom": return x.kingdom();
            case "fault": return x.fault();
            case "told": return x.told(a);
            case "person": return x.person(a, b);
            case "office": return x.office(a, b);
            case "ahead": return x.ahead(a);
            case "logged": return x.logged(a, b);
            case "day": return x.day(a);
            case "effort": return x.effort(a, b);
            case "rain": return x.rain(a != 0);
            case "teach": return x.teach(a, b, c);
            case "send": return x.send(a);
            case "recall": return x.recall(a);
            case "drift": return x.drift(a);
            case "undo": return x.undo(a);
            case "mark": return x.mark(a, b);
            case "place": return x.place(a, b);
            case "wouldBe": return x.wouldBe(a, b);
            case "holds": return x.holds(a, b);
            case "efforts": return x.efforts(a, b);
            case "restless": return x.restless(a);
            case "letWin": return x.letWin(a, b, c);
            default: return answerMore(x, name, a, b, c);
        }
    }

    private static int answerMore(SecondBest x, String name, int a, int b, int c) {
        switch (name) {
            case "win": return x.win(a, b, c);
            case "next": return x.next(a);
            case "beats": return x.beats(a, b);
            case "spread": return x.spread(a);
            case "dry": return x.dry(a, b);
            case "see": return x.see(a, b);
            case "truly": return x.truly(a);
            case "tryNext": return x.tryNext();
            case "write": return x.write(a, b);
            case "judge": return x.judge();
            case "tear": return x.tear();
            case "seed": return x.seed(a);
            case "keep": return x.keep(a);
            case "goBack": return x.goBack(a);
            default: throw new IllegalArgumentException(name);
        }
    }
}
