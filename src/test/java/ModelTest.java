import java.util.Random;

/** Long runs of drawn calls on one object, each answered alike by SecondBest and by Model. */
public final class ModelTest {
    private static final String[] NAMES = ("feed kingdom fault told person office ahead logged day effort rain teach send "
        + "recall drift undo mark place wouldBe holds efforts restless letWin win next beats spread dry see truly tryNext "
        + "write judge tear seed keep goBack").split(" ");
    private static final int[] EDGES = {Integer.MIN_VALUE, -1000000004, -2, -1, 10, 12, 20, 21, 29, 30, 31, 59, 60, 61, 99,
        100, 101, 255, 256, 65536, Integer.MAX_VALUE};

    private final Random random;
    private final SecondBest x = new SecondBest();
    private final Model y = new Model();
    private final StringBuilder run = new StringBuilder();
    private int calls = 0;

    private ModelTest(long seed) {
        random = new Random(seed);
    }

    public static void main(String[] args) {
        int runs = args.length > 0 ? Integer.parseInt(args[0]) : 1500;
        for (int i = 0; i < runs; i++) {
            if (!new ModelTest(i).goes(i)) {
                break;
            }
        }
        Due.end("ModelTest");
    }

    private boolean goes(int number) {
        boolean alike = true;
        int shape = number % 5;
        if (shape != 0) {
            alike = tell(goodText());
        }
        while (alike && calls < 512) {
            if (random.nextInt(shape == 0 ? 4 : 150) == 0 && calls < 250) {
                alike = tell(random.nextInt(4) == 0 ? goodText() : brokenText());
            } else {
                alike = same(drawName(shape), drawNumber(), drawNumber(), drawNumber());
            }
        }
        return alike;
    }

    private String drawName(int shape) {
        if (shape >= 3 && random.nextInt(3) == 0) {
            return random.nextBoolean() ? "day" : "drift";
        }
        String name = NAMES[random.nextInt(NAMES.length)];
        boolean ends = name.equals("kingdom") || name.equals("feed");
        return ends && random.nextInt(40) != 0 ? "told" : name;
    }

    private int drawNumber() {
        switch (random.nextInt(12)) {
            case 0: return EDGES[random.nextInt(EDGES.length)];
            case 1: return random.nextInt(101);
            case 2: return random.nextInt(18);
            default: return random.nextInt(random.nextInt(10) + 1);
        }
    }

    private boolean tell(String text) {
        boolean alike = true;
        for (int i = 0; i < text.length() && alike; i++) {
            alike = same("feed", text.charAt(i), 0, 0);
        }
        return alike && same("kingdom", 0, 0, 0) && same("fault", 0, 0, 0);
    }

    private String goodText() {
        StringBuilder s = new StringBuilder("k" + random.nextInt(3) + " " + (1 + random.nextInt(random.nextInt(9) + 1)) + ";");
        int gifts = 1 + random.nextInt(10);
        int people = random.nextInt(10) == 0 ? random.nextInt(3) : 2 + random.nextInt(6);
        for (int p = 0; p < people; p++) {
            s.append('p');
            for (int k = 0; k < 4; k++) {
                s.append(k == 0 ? "" : " ").append(random.nextInt(gifts));
            }
            s.append(';');
        }
        int turns = random.nextInt(13);
        for (int i = 0; i < turns; i++) {
            s.append(i == 0 ? 'd' : ',').append(random.nextInt(3));
        }
        s.append(turns > 0 ? ";" : "");
        for (int o = random.nextInt(5); o > 0; o--) {
            s.append('o').append(random.nextInt(3)).append(';');
        }
        return s.toString();
    }

    /** A good text, or rows of clauses, with letters changed, lost or put in. */
    private String brokenText() {
        StringBuilder s = new StringBuilder(random.nextInt(3) > 0 ? goodText() : clauses());
        String letters = "kpdo;;,,  00112399xK\n:/";
        for (int i = random.nextInt(4); i > 0 && s.length() > 0; i--) {
            int at = random.nextInt(s.length());
            char letter = letters.charAt(random.nextInt(letters.length()));
            switch (random.nextInt(4)) {
                case 0: s.setCharAt(at, letter); break;
                case 1: s.deleteCharAt(at); break;
                case 2: s.insert(at, letter); break;
                default: s.setLength(random.nextInt(3) == 0 ? at : s.length()); break;
            }
        }
        return s.toString();
    }

    private String clauses() {
        String[] parts = {"k0 1;", "o0;", "d1;", "p0 0 0 0;", " ", "d0,0,0,0,0,0,0,0,0,0,0,0;", "o2;", "k2 9;", "0001", "d0,0,0,0,0,0,0,0,0,0,0,0,0;"};
        StringBuilder s = new StringBuilder(random.nextInt(8) == 0 ? "" : "k0 1;");
        for (int i = random.nextInt(12); i > 0; i--) {
            s.append(parts[Math.min(random.nextInt(parts.length), random.nextInt(parts.length))]);
        }
        return s.toString();
    }

    private boolean same(String name, int a, int b, int c) {
        calls++;
        int got = Calls.answer(x, name, a, b, c);
        int want = y.call(name, a, b, c);
        run.append(name).append('(').append(a).append(", ").append(b).append(", ").append(c).append(") ");
        Due.due(got == want ? name : run.toString(), got, want);
        return got == want;
    }
}
