/**
 * A run of calls on one object, told in rows: "day(30) = 30; day(31) = OUTSIDE". A row without an
 * answer is only called. A number "a..b" stands for all from a to b, with as many answers, or with
 * one that is due for each: "person(0, 0..2) = 5 3 7". MIN and MAX are the least and greatest int.
 */
final class Run {
    private static final int MOST_CALLS = 512;

    private final String title;
    private final SecondBest x = new SecondBest();
    private int calls = 0;

    private Run(String title) {
        this.title = title;
    }

    /** A new object. */
    static Run on(String title) {
        return new Run(title);
    }

    /** A new object with a kingdom. */
    static Run of(String title, String text) {
        Run run = new Run(title).feed(text);
        int persons = run.call("kingdom", 0, 0, 0);
        Due.due(title + ": the kingdom has persons or none", persons < 0 ? persons : 0, 0);
        return run;
    }

    Run feed(String text) {
        for (int i = 0; i < text.length(); i++) {
            call("feed", text.charAt(i), 0, 0);
        }
        return this;
    }

    Run rows(String rows) {
        for (String row : rows.split("[;\n]")) {
            if (!row.isBlank()) {
                row(row.trim());
            }
        }
        return this;
    }

    int call(String name, int a, int b, int c) {
        calls++;
        if (calls > MOST_CALLS) {
            throw new IllegalStateException(title + ": the document promises nothing beyond 512 calls");
        }
        return Calls.answer(x, name, a, b, c);
    }

    private void row(String row) {
        int open = row.indexOf('(');
        int close = row.indexOf(')');
        String name = row.substring(0, open).trim();
        String inside = row.substring(open + 1, close).trim();
        String[] takes = inside.isEmpty() ? new String[0] : inside.split(",");
        int equals = row.indexOf('=');
        String[] wants = equals < 0 ? new String[0] : row.substring(equals + 1).trim().split("\\s+");
        int[] least = new int[3];
        int[] most = new int[3];
        for (int i = 0; i < takes.length; i++) {
            String[] ends = takes[i].trim().split("\\.\\.");
            least[i] = number(ends[0]);
            most[i] = number(ends[ends.length - 1]);
        }
        long many = (long) (most[0] - least[0] + 1) * (most[1] - least[1] + 1) * (most[2] - least[2] + 1);
        if (wants.length > 1 && wants.length != many) {
            throw new IllegalStateException(title + ": " + row + " has " + many + " calls and " + wants.length + " answers");
        }
        all(name, takes.length, least, most, wants);
    }

    private void all(String name, int takes, int[] least, int[] most, String[] wants) {
        int at = 0;
        for (int i = 0; i <= most[0] - least[0]; i++) {
            for (int j = 0; j <= most[1] - least[1]; j++) {
                for (int k = 0; k <= most[2] - least[2]; k++) {
                    int a = least[0] + i;
                    int b = least[1] + j;
                    int c = least[2] + k;
                    int got = call(name, a, b, c);
                    if (wants.length > 0) {
                        Due.due(title + ": " + told(name, takes, a, b, c), got, number(wants[wants.length == 1 ? 0 : at]));
                    }
                    at++;
                }
            }
        }
    }

    static String told(String name, int takes, int a, int b, int c) {
        StringBuilder s = new StringBuilder(name).append('(');
        int[] all = {a, b, c};
        for (int i = 0; i < takes; i++) {
            s.append(i == 0 ? "" : ", ").append(all[i]);
        }
        return s.append(')').toString();
    }

    static int number(String word) {
        switch (word.trim()) {
            case "NONE": return Due.NONE;
            case "UNKNOWN": return Due.UNKNOWN;
            case "OUTSIDE": return Due.OUTSIDE;
            case "NOT": return Due.NOT;
            case "FULL": return Due.FULL;
            case "MIN": return Integer.MIN_VALUE;
            case "MAX": return Integer.MAX_VALUE;
            case "BILLION": return 1000000000;
            case "true": return 1;
            case "false": return 0;
            default: return Integer.parseInt(word.trim());
        }
    }
}
