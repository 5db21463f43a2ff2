import java.util.ArrayDeque;
import java.util.ArrayList;
import java.util.Arrays;
import java.util.Comparator;
import java.util.Deque;
import java.util.List;

/**
 * The document written a second time, with lists, sorting and copies, slow and plain. It shares no
 * code and no way of counting with SecondBest, so that a slip in one of them shows as a difference.
 */
final class Model {
    static final int NONE = -1, UNKNOWN = -1000000001, OUTSIDE = -1000000002, NOT = -1000000003, FULL = -1000000004;

    static final class Person {
        int[] gifts = new int[3];
        int daring;
        int effort = 5;
        int coast = 0;
        int seconds = 0;

        Person copy() {
            Person c = new Person();
            c.gifts = gifts.clone();
            c.daring = daring;
            c.effort = effort;
            c.coast = coast;
            c.seconds = seconds;
            return c;
        }
    }

    static final class World {
        List<Person> people = new ArrayList<>();
        List<Integer> holders = new ArrayList<>();
        List<int[]> log = new ArrayList<>();
        int days = 0;
        boolean rain = false;

        World copy() {
            World w = new World();
            for (Person p : people) {
                w.people.add(p.copy());
            }
            w.holders.addAll(holders);
            w.log.addAll(log);
            w.days = days;
            w.rain = rain;
            return w;
        }
    }

    /** What a text says: law and term, kinds, people, or its fault. */
    static final class Told {
        int law = NONE;
        int term = 0;
        List<Integer> turns = new ArrayList<>();
        List<Integer> offices = new ArrayList<>();
        List<Person> people = new ArrayList<>();
        int fault = 0;
        int at = NONE;
    }

    private StringBuilder text = new StringBuilder();
    private Told told = new Told();
    private int faultAt = NONE;
    private World world = new World();
    private final Deque<World> past = new ArrayDeque<>();
    private final World[] images = new World[2];
    private final long[] imageSeeds = new long[2];
    private long seed = 0;
    private final List<int[]> seen = new ArrayList<>();
    private final List<int[]> book = new ArrayList<>();

    int call(String name, int a, int b, int c) {
        switch (name) {
            case "feed": return a < 0 || a > 255 ? OUTSIDE : text.length() == 240 ? FULL : text.append((char) a).length();
            case "kingdom": return kingdom();
            case "fault": return faultAt;
            case "told": return told(a);
            case "person": return person(a, b);
            case "office": return !office(a) ? UNKNOWN : b == 0 ? told.offices.get(a) : b == 1 ? world.holders.get(a) : OUTSIDE;
            case "ahead": return a < 0 || a > 60 ? OUTSIDE : told.law == NONE ? NOT : kindOf(world.days + a);
            case "logged": return logged(a, b);
            case "day": return days(a, false);
            case "drift": return days(a, true);
            case "effort": return !person(a) ? UNKNOWN : b < 0 || b > 9 ? OUTSIDE : setEffort(a, b);
            case "rain": return told.law == NONE ? NOT : setRain(a != 0);
            case "teach": return !person(a) ? UNKNOWN : !kind(b) || c < 0 || c > 9 ? OUTSIDE : setGift(a, b, c);
            case "send": return !person(a) ? UNKNOWN : world.people.get(a).coast > 0 ? NOT : move(a, told.term);
            case "recall": return !person(a) ? UNKNOWN : world.people.get(a).coast == 0 ? NOT : move(a, 0);
            case "undo": return undo(a);
            case "seed": return a < 0 ? OUTSIDE : setSeed(a);
            case "keep": return keep(a);
            case "goBack": return goBack(a);
            default: return ask(name, a, b, c);
        }
    }

    private int ask(String name, int a, int b, int c) {
        switch (name) {
            case "mark": return !person(a) ? UNKNOWN : !kind(b) ? OUTSIDE : mark(world, a, b);
            case "place": return !person(a) ? UNKNOWN : !kind(b) ? OUTSIDE : place(a, b);
            case "wouldBe": return !kind(a) || b < 0 || b > 1 ? OUTSIDE : b == 0 ? firsts(world, a) : second(world, a);
            case "holds": return !office(a) ? UNKNOWN : b < 0 || b > 60 ? OUTSIDE : holder(world.copy(), a, b);
            case "efforts": return !person(a) ? UNKNOWN : !kind(b) ? OUTSIDE : !court(world, a) ? NOT : efforts(a, b);
            case "restless": return kind(a) ? restless(a) : OUTSIDE;
            case "letWin": return letWin(a, b, c);
            case "win": return !person(a) || !office(b) ? UNKNOWN : c < 1 || c > 60 ? OUTSIDE : win(a, b, c);
            case "next": return !person(a) ? UNKNOWN : next(a);
            case "beats": return !person(a) || !person(b) || a == b ? UNKNOWN : beats(a, b) ? 1 : 0;
            case "spread": return kind(a) ? spread(a) : OUTSIDE;
            case "dry": return a < 0 || a > 60 || b < 0 || b > 100 ? OUTSIDE : dry(a, b);
            case "see": return see(a, b);
            case "truly": return a == 0 ? fitting().size() : a == 1 ? fitting().isEmpty() ? NONE : fitting().get(0) : OUTSIDE;
            case "tryNext": return tryNext();
            case "write": return write(a, b);
            case "judge": return judge();
            case "tear": return tear();
            default: throw new IllegalArgumentException(name);
        }
    }

    // ---- the text, as tokens: {sort, value, where}; sort 0 a number, 1 another letter, 2 the end

    private static List<int[]> tokens(String s) {
        List<int[]> all = new ArrayList<>();
        int i = 0;
        while (i < s.length()) {
            int j = i;
            while (j < s.length() && s.charAt(j) >= '0' && s.charAt(j) <= '9') {
                j++;
            }
            if (j > i) {
                all.add(new int[] {0, j - i > 3 ? 1000000 : Integer.parseInt(s.substring(i, j)), i});
                i = j;
            } else {
                if (s.charAt(i) != ' ') {
                    all.add(new int[] {1, s.charAt(i), i});
                }
                i++;
            }
        }
        all.add(new int[] {2, 0, s.length()});
        return all;
    }

    /** One token after another against what may come next, as a row of states. */
    private static Told read(String s) {
        Told t = new Told();
        String rest = "";
        int word = 0;
        List<Integer> numbers = new ArrayList<>();
        for (int[] token : tokens(s)) {
            int fault = 0;
            if (rest.isEmpty()) {
                fault = atClause(t, token);
                word = token[1];
                numbers.clear();
                rest = word == 'k' ? "RT;" : word == 'p' ? "GGGG;" : word == 'd' ? "K;" : "K;";
            } else if (rest.charAt(0) == ';') {
                if (token[0] == 1 && token[1] == ',' && word == 'd' && numbers.size() < 12) {
                    rest = "K;";
                } else if (token[0] == 1 && token[1] == ';') {
                    rest = "";
                    take(t, word, numbers);
                } else {
                    fault = 1;
                }
            } else if (token[0] != 0) {
                fault = 1;
            } else {
                char bound = rest.charAt(0);
                int most = bound == 'R' || bound == 'K' ? 2 : 9;
                fault = token[1] > most || token[1] < (bound == 'T' ? 1 : 0) ? 2 : 0;
                numbers.add(token[1]);
                rest = rest.substring(1);
            }
            if (fault > 0) {
                t.fault = fault;
                t.at = token[2];
                return t;
            }
            if (token[0] == 2) {
                return t;
            }
        }
        return t;
    }

    private static int atClause(Told t, int[] token) {
        if (token[0] == 2) {
            return 0;
        }
        if (token[0] == 0 || "kpdo".indexOf(token[1]) < 0 || t.law == NONE && token[1] != 'k') {
            return 1;
        }
        boolean again = token[1] == 'k' && t.law != NONE || token[1] == 'd' && !t.turns.isEmpty()
            || token[1] == 'p' && t.people.size() == 7 || token[1] == 'o' && t.offices.size() == 4;
        return again ? 3 : 0;
    }

    private static void take(Told t, int word, List<Integer> numbers) {
        if (word == 'k') {
            t.law = numbers.get(0);
            t.term = numbers.get(1);
        } else if (word == 'p') {
            Person p = new Person();
            for (int k = 0; k < 3; k++) {
                p.gifts[k] = numbers.get(k);
            }
            p.daring = numbers.get(3);
            t.people.add(p);
        } else if (word == 'd') {
            t.turns.addAll(numbers);
        } else {
            t.offices.addAll(numbers);
        }
    }

    private int kingdom() {
        Told t = read(text.toString());
        text = new StringBuilder();
        faultAt = t.at;
        if (t.fault > 0) {
            return -10 - t.fault;
        }
        told = t;
        world = new World();
        for (Person p : t.people) {
            world.people.add(p.copy());
        }
        for (int i = 0; i < t.offices.size(); i++) {
            world.holders.add(NONE);
        }
        past.clear();
        Arrays.fill(images, null);
        seen.clear();
        book.clear();
        return t.people.size();
    }

    // ---- asked

    private boolean person(int p) {
        return p >= 0 && p < world.people.size();
    }

    private boolean office(int o) {
        return o >= 0 && o < told.offices.size();
    }

    private static boolean kind(int k) {
        return k >= 0 && k <= 2;
    }

    private static boolean court(World w, int p) {
        return w.people.get(p).coast == 0;
    }

    private int kindOf(int day) {
        return told.turns.isEmpty() ? 0 : told.turns.get(day % told.turns.size());
    }

    private int told(int what) {
        int[] all = {told.law, told.term, told.people.size(), told.offices.size(), told.turns.size(), text.length(),
            world.days, world.rain ? 1 : 0, courtSet(), held(NONE), nearly(), rings(), brilliant(),
            world.log.size(), seen.size(), book.size(), past.size()};
        return what < 0 || what >= all.length ? OUTSIDE : all[what];
    }

    private int courtSet() {
        int set = 0;
        for (int p = 0; p < world.people.size(); p++) {
            set += court(world, p) ? 1 << p : 0;
        }
        return set;
    }

    private int held(int by) {
        int set = 0;
        for (int o = 0; o < world.holders.size(); o++) {
            set += world.holders.get(o) == by ? 1 << o : 0;
        }
        return set;
    }

    private int nearly() {
        List<Integer> all = new ArrayList<>();
        for (int p = 0; p < world.people.size(); p++) {
            all.add(p);
        }
        all.sort(Comparator.comparingInt((Integer p) -> -world.people.get(p).seconds).thenComparingInt(p -> p));
        return all.size() < 2 ? NONE : all.get(1);
    }

    private int rings() {
        int n = world.people.size();
        int found = 0;
        for (int a = 0; a < n; a++) {
            for (int b = 0; b < n; b++) {
                for (int c = 0; c < n; c++) {
                    found += a != b && b != c && c != a && beats(a, b) && beats(b, c) && beats(c, a) ? 1 : 0;
                }
            }
        }
        return found / 3;
    }

    private int brilliant() {
        int sum = 0;
        for (Person p : world.people) {
            sum += p.coast > 0 ? p.gifts[0] + p.gifts[1] + p.gifts[2] : 0;
        }
        return sum;
    }

    private int person(int p, int what) {
        if (!person(p)) {
            return UNKNOWN;
        }
        Person q = world.people.get(p);
        int[] all = {q.gifts[0], q.gifts[1], q.gifts[2], q.daring, q.effort, q.coast, q.seconds, held(p)};
        return what < 0 || what > 7 ? OUTSIDE : all[what];
    }

    private int logged(int i, int what) {
        if (what < 0 || what > 3) {
            return OUTSIDE;
        }
        return i < 0 || i >= world.log.size() ? NONE : world.log.get(world.log.size() - 1 - i)[what];
    }

    // ---- deeds

    private void remember() {
        past.addLast(world.copy());
        if (past.size() > 30) {
            past.removeFirst();
        }
    }

    private int days(int n, boolean draws) {
        if (n < 1 || n > 30) {
            return OUTSIDE;
        }
        if (told.law == NONE) {
            return NOT;
        }
        if (world.days > 90000) {
            return FULL;
        }
        for (int i = 0; i < n; i++) {
            remember();
            if (draws && !world.people.isEmpty()) {
                int p = draw(world.people.size());
                world.people.get(p).effort = draw(10);
            }
            if (draws) {
                world.rain = draw(4) == 0;
            }
            pass(world);
        }
        return world.days;
    }

    private int draw(int n) {
        seed = (seed * 1103515245L + 12345L) % (1L << 31);
        return (int) (seed / 65536 % n);
    }

    private int setEffort(int p, int e) {
        remember();
        int was = world.people.get(p).effort;
        world.people.get(p).effort = e;
        return was;
    }

    private int setRain(boolean is) {
        remember();
        int was = world.rain ? 1 : 0;
        world.rain = is;
        return was;
    }

    private int setGift(int p, int k, int v) {
        remember();
        int was = world.people.get(p).gifts[k];
        world.people.get(p).gifts[k] = v;
        return was;
    }

    private int move(int p, int days) {
        remember();
        world.people.get(p).coast = days;
        if (days > 0) {
            world.holders.replaceAll(h -> h == p ? NONE : h);
        }
        return Integer.bitCount(courtSet());
    }

    private int undo(int n) {
        if (n < 1 || n > 30) {
            return OUTSIDE;
        }
        if (n > past.size()) {
            return NOT;
        }
        for (int i = 0; i < n; i++) {
            world = past.removeLast();
        }
        return world.days;
    }

    private int setSeed(int v) {
        int was = (int) seed;
        seed = v;
        return was;
    }

    private int keep(int i) {
        if (i < 0 || i > 1) {
            return UNKNOWN;
        }
        images[i] = world.copy();
        imageSeeds[i] = seed;
        past.clear();
        return 1;
    }

    private int goBack(int i) {
        if (i < 0 || i > 1) {
            return UNKNOWN;
        }
        if (images[i] == null) {
            return NOT;
        }
        world = images[i].copy();
        seed = imageSeeds[i];
        past.clear();
        return 1;
    }

    // ---- contests

    private static int mark(World w, int p, int k) {
        Person q = w.people.get(p);
        return q.gifts[k] * q.effort + (w.rain ? q.daring / 2 : q.daring);
    }

    private List<Integer> ranked(World w, int k) {
        List<Integer> all = new ArrayList<>();
        for (int p = 0; p < w.people.size(); p++) {
            if (court(w, p)) {
                all.add(p);
            }
        }
        Comparator<Integer> by = Comparator.comparingInt(p -> -mark(w, p, k));
        if (told.law == 1) {
            by = by.thenComparingInt(p -> -w.people.get(p).daring);
        }
        all.sort(by.thenComparingInt(p -> p));
        return all;
    }

    private int howManyFirst(World w, List<Integer> ranked, int k) {
        int n = Math.min(1, ranked.size());
        while (told.law == 2 && n > 0 && n < ranked.size() && mark(w, ranked.get(n), k) == mark(w, ranked.get(0), k)) {
            n++;
        }
        return n;
    }

    private int firsts(World w, int k) {
        List<Integer> ranked = ranked(w, k);
        int set = 0;
        for (int i = 0; i < howManyFirst(w, ranked, k); i++) {
            set |= 1 << ranked.get(i);
        }
        return set;
    }

    private int second(World w, int k) {
        List<Integer> ranked = ranked(w, k);
        int n = howManyFirst(w, ranked, k);
        return n < ranked.size() ? ranked.get(n) : NONE;
    }

    private int place(int p, int k) {
        List<Integer> ranked = ranked(world, k);
        int i = ranked.indexOf(p);
        return i < 0 ? NONE : Math.max(0, i - howManyFirst(world, ranked, k) + 1);
    }

    private void pass(World w) {
        int k = kindOf(w.days);
        List<Person> away = new ArrayList<>();
        for (Person p : w.people) {
            if (p.coast > 0) {
                away.add(p);
            }
        }
        if (away.size() < w.people.size()) {
            int first = firsts(w, k);
            int second = second(w, k);
            for (int p = 0; p < w.people.size(); p++) {
                if ((first & 1 << p) != 0) {
                    int gone = p;
                    w.people.get(p).coast = told.term;
                    w.holders.replaceAll(h -> h == gone ? NONE : h);
                }
            }
            if (second >= 0) {
                for (int o = 0; o < w.holders.size(); o++) {
                    if (told.offices.get(o) == k) {
                        w.holders.set(o, second);
                    }
                }
                Person made = w.people.get(second);
                made.seconds++;
                made.gifts[k] -= made.gifts[k] > 0 ? 1 : 0;
            }
            w.log.add(new int[] {w.days, k, Integer.numberOfTrailingZeros(first), second});
            if (w.log.size() > 20) {
                w.log.remove(0);
            }
        }
        for (Person p : away) {
            p.coast--;
        }
        w.days++;
    }

    private int holder(World w, int o, int n) {
        for (int i = 0; i < n; i++) {
            pass(w);
        }
        return w.holders.get(o);
    }

    private int efforts(int p, int k) {
        int set = 0;
        for (int e = 0; e < 10; e++) {
            World w = world.copy();
            w.people.get(p).effort = e;
            set |= second(w, k) == p ? 1 << e : 0;
        }
        return set;
    }

    private int restless(int k) {
        int set = 0;
        for (int p = 0; p < world.people.size(); p++) {
            if (court(world, p) && second(world, k) != p && efforts(p, k) != 0) {
                set |= 1 << p;
            }
        }
        return set;
    }

    private int letWin(int p, int k, int what) {
        if (!person(p)) {
            return UNKNOWN;
        }
        if (!kind(k) || what < 0 || what > 1) {
            return OUTSIDE;
        }
        if (!court(world, p)) {
            return NOT;
        }
        for (int many = 0; many <= 6; many++) {
            for (int set = 0; set < 128; set++) {
                boolean counts = Integer.bitCount(set) == many && (set & courtSet()) == set && (set & 1 << p) == 0;
                if (counts && lets(p, k, set)) {
                    return what == 0 ? many : set;
                }
            }
        }
        return NONE;
    }

    private boolean lets(int p, int k, int set) {
        World w = world.copy();
        for (int q = 0; q < w.people.size(); q++) {
            if ((set & 1 << q) != 0) {
                w.people.get(q).effort = 0;
            }
        }
        return second(w, k) == p;
    }

    private int win(int p, int o, int n) {
        for (int e = 0; e < 10; e++) {
            World w = world.copy();
            w.people.get(p).effort = e;
            if (holder(w, o, n) == p) {
                return e;
            }
        }
        return NONE;
    }

    private int next(int p) {
        return (second(world, 0) == p ? 1 : 0) + (second(world, 1) == p ? 2 : 0) + (second(world, 2) == p ? 4 : 0);
    }

    private boolean beats(int p, int q) {
        int more = 0;
        int less = 0;
        for (int k = 0; k < 3; k++) {
            more += world.people.get(p).gifts[k] > world.people.get(q).gifts[k] ? 1 : 0;
            less += world.people.get(p).gifts[k] < world.people.get(q).gifts[k] ? 1 : 0;
        }
        return more > less;
    }

    private int spread(int k) {
        return world.people.stream().mapToInt(p -> p.gifts[k]).max().orElse(0)
            - world.people.stream().mapToInt(p -> p.gifts[k]).min().orElse(0);
    }

    private static int dry(int n, int q) {
        long b = 1000000000L;
        for (int i = 0; i < n; i++) {
            b = (b * q - b * q % 100) / 100;
        }
        return (int) b;
    }

    // ---- what was seen

    private int see(int e, int m) {
        if (e < 0 || e > 9 || m < 0 || m > 99) {
            return OUTSIDE;
        }
        if (seen.size() == 6) {
            return FULL;
        }
        seen.add(new int[] {e, m});
        return seen.size();
    }

    private List<Integer> fitting() {
        List<Integer> all = new ArrayList<>();
        for (int g = 0; g < 10; g++) {
            for (int d = 0; d < 10; d++) {
                boolean fits = true;
                for (int[] s : seen) {
                    fits &= g * s[0] + d == s[1];
                }
                if (fits) {
                    all.add(10 * g + d);
                }
            }
        }
        return all;
    }

    private int tryNext() {
        List<Integer> all = fitting();
        int best = NONE;
        int least = Integer.MAX_VALUE;
        for (int e = 0; e < 10; e++) {
            int greatest = 0;
            for (int a : all) {
                int alike = 0;
                for (int b : all) {
                    alike += a / 10 * e + a % 10 == b / 10 * e + b % 10 ? 1 : 0;
                }
                greatest = Math.max(greatest, alike);
            }
            if (greatest < all.size() && greatest < least) {
                least = greatest;
                best = e;
            }
        }
        return best;
    }

    private int write(int o, int p) {
        if (!office(o) || p != NONE && !person(p)) {
            return UNKNOWN;
        }
        if (book.size() == 20) {
            return FULL;
        }
        book.add(new int[] {o, p});
        return book.size();
    }

    private int judge() {
        for (int i = 0; i < book.size(); i++) {
            if (world.holders.get(book.get(i)[0]) != book.get(i)[1]) {
                return i;
            }
        }
        return NONE;
    }

    private int tear() {
        int had = seen.size() + book.size();
        seen.clear();
        book.clear();
        return had;
    }
}
