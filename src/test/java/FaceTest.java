import java.io.IOException;
import java.lang.reflect.Array;
import java.lang.reflect.Constructor;
import java.lang.reflect.Field;
import java.lang.reflect.Method;
import java.lang.reflect.Modifier;
import java.nio.file.Files;
import java.nio.file.Path;
import java.util.Arrays;
import java.util.IdentityHashMap;
import java.util.Map;
import java.util.Set;
import java.util.TreeSet;
import java.util.regex.Matcher;
import java.util.regex.Pattern;

/** The document's face, and rules of LANGUAGE.md that can be read off the class and its source. */
public final class FaceTest {
    private static final String FACE = "feed(int) kingdom() fault() told(int) person(int,int) office(int,int) ahead(int) "
        + "logged(int,int) day(int) effort(int,int) rain(boolean) teach(int,int,int) send(int) recall(int) drift(int) "
        + "undo(int) mark(int,int) place(int,int) wouldBe(int,int) holds(int,int) efforts(int,int) restless(int) "
        + "letWin(int,int,int) win(int,int,int) next(int) beats(int,int) spread(int) dry(int,int) see(int,int) "
        + "truly(int) tryNext() write(int,int) judge() tear() seed(int) keep(int) goBack(int)";

    /** A run may have a new object for each of 512 calls, and a room of 600,000 objects and 7.3 million cells. */
    private static final int MOST_OBJECTS = 600000 / 512, MOST_CELLS = 7300000 / 512;

    public static void main(String[] args) throws IOException, IllegalAccessException {
        constants();
        methods();
        fields();
        classesInside();
        source();
        room();
        nothingIsMadeByCalls();
        Due.end("FaceTest");
    }

    private static void hold(String what, boolean is) {
        Due.due(what, is ? 1 : 0, 1);
    }

    private static void constants() {
        int[] got = {SecondBest.NONE, SecondBest.UNKNOWN, SecondBest.OUTSIDE, SecondBest.NOT, SecondBest.FULL};
        Due.row("constants", got, -1, -1000000001, -1000000002, -1000000003, -1000000004);
    }

    private static void methods() {
        Set<String> open = new TreeSet<>();
        Set<String> openNames = new TreeSet<>();
        Set<String> hiddenNames = new TreeSet<>();
        for (Method m : SecondBest.class.getDeclaredMethods()) {
            if (Modifier.isPrivate(m.getModifiers()) || m.isSynthetic()) {
                hiddenNames.add(m.getName());
                continue;
            }
            hold(m + " is public and answers an int", Modifier.isPublic(m.getModifiers()) && m.getReturnType() == int.class);
            String takes = Arrays.toString(Arrays.stream(m.getParameterTypes()).map(Class::getName).toArray());
            open.add(m.getName() + "(" + takes.replaceAll("[\\[\\] ]", "") + ")");
            openNames.add(m.getName());
        }
        Set<String> face = new TreeSet<>(Arrays.asList(FACE.split(" ")));
        hold("the face: " + open, open.equals(face));
        hiddenNames.retainAll(openNames);
        hold("no private method bears a public one's name: " + hiddenNames, hiddenNames.isEmpty());
        Constructor<?>[] made = SecondBest.class.getDeclaredConstructors();
        hold("one public constructor", made.length == 1 && Modifier.isPublic(made[0].getModifiers())
            && made[0].getParameterCount() == 0);
    }

    private static void fields() {
        Set<String> open = new TreeSet<>();
        for (Field f : SecondBest.class.getDeclaredFields()) {
            if (!Modifier.isPrivate(f.getModifiers())) {
                open.add(f.getName());
            }
            hold(f + ": static fields are final", !Modifier.isStatic(f.getModifiers()) || Modifier.isFinal(f.getModifiers()));
        }
        hold("open fields: " + open, open.equals(new TreeSet<>(Arrays.asList("NONE", "UNKNOWN", "OUTSIDE", "NOT", "FULL"))));
        hold("public and final", Modifier.isPublic(SecondBest.class.getModifiers())
            && Modifier.isFinal(SecondBest.class.getModifiers()));
    }

    private static void classesInside() {
        Class<?>[] inside = SecondBest.class.getDeclaredClasses();
        hold("some twelve classes", inside.length < 12);
        for (Class<?> c : inside) {
            int is = c.getModifiers();
            hold(c + " is static and not open", Modifier.isStatic(is) && !Modifier.isPublic(is) && !Modifier.isProtected(is));
            int own = 0;
            for (Field f : c.getDeclaredFields()) {
                own += Modifier.isStatic(f.getModifiers()) ? 0 : 1;
            }
            hold(c + " has some twenty fields", own <= 20);
            for (Method m : c.getDeclaredMethods()) {
                hold(m + " takes seven at most", m.getParameterCount() <= 7);
            }
        }
    }

    private static void source() throws IOException {
        String all = Files.readString(Path.of("src/main/java/SecondBest.java"));
        String code = all.replaceAll("(?s)/\\*.*?\\*/", "").replaceAll("//[^\n]*", "");
        for (String word : "throw try catch finally synchronized assert import package native volatile protected".split(" ")) {
            hold("no " + word, !Pattern.compile("\\b" + word + "\\b").matcher(code).find());
        }
        for (String sign : new String[] {"->", "::", "Exact", "hashCode", "toString", "equals"}) {
            hold("no " + sign, !code.contains(sign));
        }
        Matcher dotted = Pattern.compile("\\b(Integer|Math|System|Long|Arrays|String|StringBuilder)\\.(\\w+)").matcher(code);
        Set<String> allowed = new TreeSet<>(Arrays.asList("bitCount", "compare", "max", "min", "arraycopy"));
        while (dotted.find()) {
            hold("the library's " + dotted.group(), allowed.contains(dotted.group(2)));
        }
        int deep = 0;
        int begun = 0;
        String[] lines = code.split("\n");
        for (int i = 0; i < lines.length; i++) {
            if (lines[i].matches("\\s+.*\\) \\{") && !lines[i].matches("\\s*\\}?\\s*(if|for|while|switch|else)\\b.*")) {
                begun = i;
            }
            if (lines[i].matches(" {4}( {4})?\\}")) {
                deep = Math.max(deep, i - begun);
            }
        }
        hold("methods stay short: " + deep, deep < 60);
    }

    // ---- the room that all calls of a run live in

    private static void room() throws IllegalAccessException {
        Map<Object, Boolean> seen = new IdentityHashMap<>();
        int cells = cellsFrom(new SecondBest(), seen);
        hold("one object has a room of its own: " + seen.size() + " objects, " + cells + " cells",
            seen.size() > 1 && seen.size() <= MOST_OBJECTS && cells <= MOST_CELLS);
    }

    /** How many fields and elements there are in all that can be reached from one object. */
    private static int cellsFrom(Object from, Map<Object, Boolean> seen) throws IllegalAccessException {
        if (from == null || seen.put(from, true) != null) {
            return 0;
        }
        if (from.getClass().isArray()) {
            int cells = Array.getLength(from);
            for (int i = 0; from instanceof Object[] && i < Array.getLength(from); i++) {
                cells += cellsFrom(Array.get(from, i), seen);
            }
            return cells;
        }
        int cells = 0;
        for (Field f : from.getClass().getDeclaredFields()) {
            if (!Modifier.isStatic(f.getModifiers())) {
                f.setAccessible(true);
                cells += 1 + (f.getType().isPrimitive() ? 0 : cellsFrom(f.get(from), seen));
            }
        }
        return cells;
    }

    /** All rows are made with the object itself: as fields, or in the two constructors that fill rows of objects. */
    private static void nothingIsMadeByCalls() throws IOException {
        int filled = 0;
        for (String line : Files.readAllLines(Path.of("src/main/java/SecondBest.java"))) {
            if (line.matches(" +(images|states)\\[i\\] = new \\w+\\(\\);")) {
                filled++;
            } else if (line.matches(".*\\bnew\\b.*")) {
                hold("made with the object: " + line.trim(), line.matches(" +(private |final )+[\\w\\[\\]]+ \\w+ = new [^;]+;"));
            }
        }
        Due.due("rows of objects that are filled", filled, 2);
    }
}
