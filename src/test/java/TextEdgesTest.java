/**
 * Section 1 at its boundaries: how long a text, its numbers and its clauses may be, what may be told
 * how often, and which fault stands where.
 */
public final class TextEdgesTest {
    private static final String PERSON = "p0 0 0 0;";

    public static void main(String[] args) {
        lettersAtMost();
        lawAndTerm();
        theLawComesFirst();
        theLawComesOnce();
        personsAtMost();
        giftsAndDaring();
        turnsFromOneToTwelve();
        turnsByKinds();
        turnsOnceOrUntold();
        officesAtMost();
        figuresOfNumbers();
        blanks();
        noOtherBlanks();
        theEnd();
        everyLetter();
        theLeastFaultOfALetter();
        theFirstLetterWithAFault();
        anEmptyText();
        eachTextIsReadAnew();
        Due.end("TextEdgesTest");
    }

    private static String blanks(int n) {
        return " ".repeat(n);
    }

    private static void fault(String text, int number, int at) {
        Run.on("'" + text + "'").feed(text).rows("told(5) = " + text.length() + "; kingdom() = " + (-10 - number)
            + "; fault() = " + at + "; told(5) = 0; told(0) = NONE; told(2..4) = 0");
    }

    private static void stands(String text, String rows) {
        Run.on("'" + text + "'").feed(text).rows("kingdom() = " + persons(text) + "; fault() = NONE; told(5) = 0").rows(rows);
    }

    private static int persons(String text) {
        return text.length() - text.replace("p", "").length();
    }

    // ---- (240 letters at most)

    private static void lettersAtMost() {
        Run full = Run.on("240 letters").feed("k0 1;").feed(blanks(232));
        full.rows("feed(111) = 238; feed(50) = 239; feed(59) = 240; feed(59) = FULL; feed(0) = FULL; feed(255) = FULL");
        full.rows("told(5) = 240; kingdom() = 0; fault() = NONE; told(3) = 1; office(0, 0) = 2; told(5) = 0; feed(32) = 1");
        Run beyond = Run.on("a clause that ends at the 241st").feed("k0 1;").feed(blanks(233)).rows("feed(111) = 239");
        beyond.rows("feed(50) = 240; feed(59) = FULL; kingdom() = -11; fault() = 240; told(5) = 0; feed(107) = 1");
        Run.on("a fault at the last letter").feed("k0 1;").feed(blanks(234)).rows("feed(120) = 240; kingdom() = -11; fault() = 239");
        Run.on("a fault at the first letter").feed("x").feed(blanks(239)).rows("feed(32) = FULL; kingdom() = -11; fault() = 0");
        Run.on("239 letters").feed(blanks(239)).rows("told(5) = 239; feed(107) = 240; kingdom() = -11; fault() = 240");
    }

    // ---- (LAW R, 0 .. 2; TERM of T days at THE COAST, 1 .. 9; first, once)

    private static void lawAndTerm() {
        for (int law = 0; law <= 2; law++) {
            stands("k" + law + " 1;", "told(0) = " + law + "; told(1) = 1");
        }
        for (int term = 1; term <= 9; term++) {
            stands("k0 " + term + ";", "told(0) = 0; told(1) = " + term);
        }
        fault("k3 1;", 2, 1);
        fault("k9 1;", 2, 1);
        fault("k10 1;", 2, 1);
        fault("k999 1;", 2, 1);
        fault("k-1 1;", 1, 1);
        fault("k0 0;", 2, 3);
        fault("k0 000;", 2, 3);
        fault("k0 10;", 2, 3);
        fault("k0 999;", 2, 3);
        fault("k0 -1;", 1, 3);
        fault("k;", 1, 1);
        fault("k0;", 1, 2);
        fault("k0 1 1;", 1, 5);
        fault("k0,1;", 1, 2);
    }

    private static void theLawComesFirst() {
        for (String word : new String[] {"p0 0 0 0;", "d0;", "o0;", "x", ";", ",", "0", "K0 1;"}) {
            fault(word, 1, 0);
            fault("  " + word, 1, 2);
            fault(word + "k0 1;", 1, 0);
        }
        stands("  k0 1;o0;", "told(3) = 1");
    }

    private static void theLawComesOnce() {
        fault("k0 1;k0 1;", 3, 5);
        fault("k0 1;k", 3, 5);
        fault("k0 1;" + PERSON + "d0;o0; k0 1;", 3, 21);
        fault("kk0 1;", 1, 1);
    }

    // ---- (7 PERSONS at most: GIFTS in KINDS 0, 1, 2: A, B, C, 0 .. 9; DARING D, 0 .. 9)

    private static void personsAtMost() {
        for (int n = 0; n <= 7; n++) {
            String rows = n == 0 ? "person(0, 0) = UNKNOWN" : "person(" + (n - 1) + ", 0) = 0; person(" + n + ", 0) = UNKNOWN";
            stands("k0 1;" + PERSON.repeat(n), "told(2) = " + n + "; " + rows);
        }
        String seven = "k0 1;" + PERSON.repeat(7);
        fault(seven + PERSON, 3, 68);
        fault(seven + "p", 3, 68);
        fault(seven + "o0;d0; p10", 3, 75);
        stands(seven + "o0;o0;o0;o0;d0;", "told(2..4) = 7 4 1");
    }

    private static void giftsAndDaring() {
        for (int slot = 0; slot < 4; slot++) {
            for (int v = 0; v <= 9; v++) {
                stands("k0 1;" + personWith(slot, Integer.toString(v)), "person(0, " + slot + ") = " + v);
            }
            fault("k0 1;" + personWith(slot, "10"), 2, 6 + 2 * slot);
            fault("k0 1;" + personWith(slot, "999"), 2, 6 + 2 * slot);
            fault("k0 1;" + personWith(slot, "-1"), 1, 6 + 2 * slot);
        }
        stands("k0 1;p1 2 3 4;p5 6 7 8;", "person(0, 0..3) = 1 2 3 4; person(1, 0..3) = 5 6 7 8");
        fault("k0 1;p;", 1, 6);
        fault("k0 1;p0 0 0;", 1, 11);
        fault("k0 1;p0 0 0 0 0;", 1, 14);
        fault("k0 1;p0,0,0,0;", 1, 7);
    }

    private static String personWith(int slot, String v) {
        String[] all = {"0", "0", "0", "0"};
        all[slot] = v;
        return "p" + String.join(" ", all) + ";";
    }

    // ---- (KINDS of CONTESTS of days in turn, 1 to 12 numbers, 0 .. 2; untold: 0; once)

    private static void turnsFromOneToTwelve() {
        StringBuilder text = new StringBuilder("k0 1;d");
        for (int n = 1; n <= 12; n++) {
            text.append(n == 1 ? "" : ",").append(n % 3);
            stands(text + ";", "told(4) = " + n + "; ahead(" + (n - 1) + ") = " + n % 3 + "; ahead(" + n + ") = 1");
        }
        fault(text + ",0;", 1, 29);
        fault(text + " , 0;", 1, 30);
        fault(text + ",", 1, 29);
        fault(text + ",9999;", 1, 29);
        fault(text + "", 1, 29);
        fault("k0 1;d;", 1, 6);
        fault("k0 1;d,0;", 1, 6);
        fault("k0 1;d0,;", 1, 8);
        fault("k0 1;d0,,0;", 1, 8);
        fault("k0 1;d0 0;", 1, 8);
    }

    private static void turnsByKinds() {
        stands("k0 1;d0;", "ahead(0) = 0");
        stands("k0 1;d1;", "ahead(0) = 1");
        stands("k0 1;d2;", "ahead(0) = 2");
        fault("k0 1;d3;", 2, 6);
        fault("k0 1;d-1;", 1, 6);
        stands("k0 1;d0,0,0,0,0,0,0,0,0,0,0,2;", "ahead(11) = 2");
        fault("k0 1;d0,0,0,0,0,0,0,0,0,0,0,3;", 2, 28);
        fault("k0 1;d0,3;", 2, 8);
    }

    private static void turnsOnceOrUntold() {
        stands("k0 1;", "told(4) = 0; ahead(0..12) = 0");
        fault("k0 1;d0;d0;", 3, 8);
        fault("k0 1;d0;o0;" + PERSON + " d", 3, 21);
        fault("k0 1;d0,1;d0;", 3, 10);
        fault("k0 1;d0,1,2;d", 3, 12);
        fault("k0 1;d0,1,2,0,1,2,0,1,2,0,1,2;d0,1;", 3, 30);
        fault("k0 1;dd0;", 1, 6);
    }

    // ---- (an OFFICE of KIND K, 0 .. 2, 4 at most)

    private static void officesAtMost() {
        for (int n = 0; n <= 4; n++) {
            String rows = n == 0 ? "office(0, 0) = UNKNOWN" : "office(" + (n - 1) + ", 0) = 1; office(" + n + ", 0) = UNKNOWN";
            stands("k0 1;" + "o1;".repeat(n), "told(3) = " + n + "; " + rows);
        }
        fault("k0 1;" + "o0;".repeat(5), 3, 17);
        fault("k0 1;" + "o0;".repeat(4) + "o", 3, 17);
        fault("k0 1;" + "o0;".repeat(4) + " o3", 3, 18);
        stands("k0 1;" + "o0;".repeat(4) + PERSON.repeat(7) + "d0;", "told(2..4) = 7 4 1");
        stands("k0 1;o0;o1;o2;", "office(0..2, 0) = 0 1 2");
        fault("k0 1;o3;", 2, 6);
        fault("k0 1;o-1;", 1, 6);
        fault("k0 1;o;", 1, 6);
        fault("k0 1;o0,0;", 1, 7);
        fault("k0 1;o0 0;", 1, 8);
    }

    // ---- NUMBERS have one to three figures (2 a NUMBER of four figures or more: at its first)

    private static void figuresOfNumbers() {
        String[] zeros = {"", "0", "00"};
        for (String zero : zeros) {
            stands("k" + zero + "2 " + zero + "9;", "told(0) = 2; told(1) = 9");
            stands("k0 1;p" + zero + "1 " + zero + "2 " + zero + "3 " + zero + "4;", "person(0, 0..3) = 1 2 3 4");
            stands("k0 1;d" + zero + "1," + zero + "2;o" + zero + "2;", "ahead(0..1) = 1 2; office(0, 0) = 2");
        }
        fault("k0002 1;", 2, 1);
        fault("k0000 1;", 2, 1);
        fault("k0 0009;", 2, 3);
        fault("k0 1;p0001 0 0 0;", 2, 6);
        fault("k0 1;p0 0 0 0001;", 2, 12);
        fault("k0 1;d0001;", 2, 6);
        fault("k0 1;d0,0001;", 2, 8);
        fault("k0 1;o0001;", 2, 6);
        fault("k0 " + "0".repeat(200) + "1;", 2, 3);
        fault("k" + "0".repeat(239), 2, 1);
        // whatever figures there are, none of them is small again by wrapping round
        fault("k0 4294967297;", 2, 3);
        fault("k0 18446744073709551617;", 2, 3);
        fault("k0 257;", 2, 3);
        fault("k0 1025;", 2, 3);
        fault("k0 1001;", 2, 3);
        fault("k0 1;p0 0 0 1000;", 2, 12);
    }

    // ---- blanks (32) may stand anywhere but within NUMBERS; two NUMBERS side by side need one

    private static void blanks() {
        String tight = "k1 2;p3 4 5 6;d0,1;o2;";
        String wide = " k 1 2 ; p 3 4 5 6 ; d 0 , 1 ; o 2 ; ";
        String rows = "told(0..4) = 1 2 1 1 2; person(0, 0..3) = 3 4 5 6; ahead(0..1) = 0 1; office(0, 0) = 2";
        stands(tight, rows);
        stands(wide, rows);
        stands(wide.replace(" ", "    "), rows);
        fault("k01;", 1, 3);
        fault("k1 2;p3 4 56;", 2, 10);
        fault("k1 2;p3 4 05;", 1, 12);
        fault("k0 1 0;", 1, 5);
        fault("k0 1;p1 0 0 0 0;", 1, 14);
        fault("k0 1;o0 0;", 1, 8);
        fault("k0 1;d1 0;", 1, 8);
    }

    private static void noOtherBlanks() {
        for (int letter : new int[] {0, 9, 10, 11, 12, 13, 31, 33, 160, 255}) {
            fault("k0 1;" + (char) letter + "o0;", 1, 5);
            fault("k0" + (char) letter + "1;", 1, 2);
            fault((char) letter + "k0 1;", 1, 0);
        }
    }

    // ---- (the end at the text's length)

    private static void theEnd() {
        String text = "k0 1;p1 2 3 4;d0,1;o2;";
        for (int n = 1; n < text.length(); n++) {
            String part = text.substring(0, n);
            if (part.endsWith(";")) {
                stands(part, "told(0) = 0");
            } else {
                fault(part, 1, n);
                fault(part + "  ", 1, n + 2);
            }
        }
        stands(text, "told(0..4) = 0 1 1 1 2");
    }

    // ---- 1 it cannot stand there (a letter that is no word, another word first than 'k')

    private static void everyLetter() {
        for (int letter = 0; letter <= 255; letter++) {
            char c = (char) letter;
            boolean isFigure = c >= '0' && c <= '9';
            if (c != ' ') {
                fault("" + c, 1, c == 'k' ? 1 : 0);
                atAWord(c);
            }
            fault("k" + c, isFigure && c > '2' ? 2 : 1, c == ' ' || isFigure && c <= '2' ? 2 : 1);
            if (c != ';') {
                fault("k0 1" + c, isFigure ? 2 : 1, isFigure ? 3 : c == ' ' ? 5 : 4);
                fault("k0 1;p0 0 0 0 " + c, 1, c == ' ' ? 15 : 14);
                boolean goesOn = c == ' ' || c == ',' || isFigure && c <= '2';
                fault("k0 1;d0" + c, isFigure && c > '2' ? 2 : 1, goesOn ? 8 : isFigure ? 6 : 7);
                fault("k0 1;o0 " + c, 1, c == ' ' ? 9 : 8);
            }
        }
    }

    private static void atAWord(char c) {
        if (c == 'k') {
            fault("k0 1;k", 3, 5);
        } else {
            fault("k0 1;" + c, 1, c == 'p' || c == 'd' || c == 'o' ? 6 : 5);
        }
    }

    // ---- at the first letter that has one, of these the least

    private static void theLeastFaultOfALetter() {
        // 1 and 2: a number where none can stand, and of four figures or out of all bounds, too
        fault("k0 1 9999;", 1, 5);
        fault("9999", 1, 0);
        fault("k0 1;9999", 1, 5);
        fault("k0 1;o0 9999;", 1, 8);
        // 1 and 3: a word that is told already, where no word can stand
        fault("k0 k", 1, 3);
        fault("k0 1 k", 1, 5);
        fault("k0 1;d0 d", 1, 8);
        fault("k0 1;d0;o0 d", 1, 11);
        fault("k0 1;" + PERSON.repeat(6) + "p0 0 0 0 p", 1, 68);
        fault("k0 1;o0;o0;o0;o0 o", 1, 17);
    }

    private static void theFirstLetterWithAFault() {
        fault("k3 0;x", 2, 1);
        fault("k0 0;k", 2, 3);
        fault("k3k", 2, 1);
        fault("k 9999", 2, 2);
        fault("k0 1;d3;d", 2, 6);
        fault("k0 1;d0;d3;", 3, 8);
        fault("k0 1;k3 0;", 3, 5);
        fault("k0 1;x3", 1, 5);
        fault("k0 1;p10 10 10 10", 2, 6);
        fault("k0 1;o0;o3;o0;o0;o0;", 2, 9);
    }

    // ---- An empty text: no KINGDOM

    private static void anEmptyText() {
        Run none = Run.on("an empty text").rows("kingdom() = 0; fault() = NONE; told(0) = NONE; told(1..9) = 0; told(10) = NONE");
        none.rows("told(11..16) = 0; ahead(0) = NOT; day(1) = NOT; rain(true) = NOT; drift(1) = NOT; person(0, 0) = UNKNOWN");
        Run behind = Run.of("an empty text behind a kingdom", "k1 2;p1 2 3 4;d1;o0;").rows("day(1) = 1; keep(0) = 1; day(1) = 2");
        behind.rows("kingdom() = 0; fault() = NONE; told(0) = NONE; told(1..9) = 0; told(10) = NONE; told(11..16) = 0");
        behind.rows("person(0, 0) = UNKNOWN; office(0, 0) = UNKNOWN; logged(0, 0) = NONE; undo(1) = NOT; goBack(0) = NOT");
        // blanks may stand anywhere: alone they tell as little as an empty text
        Run blank = Run.of("blanks alone behind a kingdom", "k1 2;p1 2 3 4;").feed("   ").rows("kingdom() = 0; fault() = NONE");
        blank.rows("told(0) = NONE; told(2) = 0; day(1) = NOT");
        Run faulty = Run.on("an empty text behind a fault").feed("x").rows("kingdom() = -11; fault() = 0; kingdom() = 0");
        faulty.rows("fault() = NONE");
    }

    // ---- what is told how often is counted anew with each text, whatever the ones before it told

    private static void eachTextIsReadAnew() {
        String most = "k2 9;" + PERSON.repeat(7) + "d2,2,2,2,2,2,2,2,2,2,2,2;o2;o2;o2;o2;";
        String none = "told(0) = NONE; told(1..9) = 0; told(10) = NONE; told(11..16) = 0";
        Run full = Run.of("two full texts", most).feed(most).rows("kingdom() = 7; told(0..4) = 2 9 7 4 12").feed("k0 1;");
        full.rows("kingdom() = 0; told(0..4) = 0 1 0 0 0; ahead(0..12) = 0; office(0, 0) = UNKNOWN; kingdom() = 0").rows(none);
        Run.of("empty texts behind full ones", most).feed(most).rows("kingdom() = 7; kingdom() = 0").rows(none + "; kingdom() = 0").rows(none);
        Run faulty = Run.of("a full text behind a fault", most).feed(most + "x").rows("kingdom() = -11; fault() = 105").feed(most);
        faulty.rows("kingdom() = 7; told(0..4) = 2 9 7 4 12");
        Run empty = Run.on("an empty text behind a fault").feed("k0 1;" + PERSON + "d2;o2;x").rows("kingdom() = -11; kingdom() = 0").rows(none);
        empty.feed("k0 1;d1;o0;k").rows("kingdom() = -13").feed("d0;").rows("kingdom() = -11; fault() = 0").feed("k0 1;").rows("kingdom() = 0");
        empty.rows("told(0..4) = 0 1 0 0 0; ahead(0) = 0");
    }
}
