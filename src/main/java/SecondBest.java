/**
 * A kingdom that is governed by the second best: who comes first is sent to the coast,
 * and the next one behind is made. ../shared/DOC.md says what each call answers.
 */
public final class SecondBest {
    public static final int NONE = -1, UNKNOWN = -1000000001, OUTSIDE = -1000000002, NOT = -1000000003, FULL = -1000000004;

    private static final int MOST_LETTERS = 240, MOST_PERSONS = 7, MOST_OFFICES = 4, MOST_TURNS = 12;
    private static final int KINDS = 3, EFFORTS = 10, FIRST_EFFORT = 5, MOST_GIFT = 9;
    private static final int CANNOT_STAND = 1, WRONG_NUMBER = 2, TOO_MANY = 3;
    private static final int LAW_OF_DARING = 1, LAW_OF_ALL_FIRST = 2;
    private static final int LOG_SIZE = 20, LOG_PARTS = 4, MOST_UNDONE = 30, IMAGES = 2;
    private static final int MOST_SEEN = 6, PAIRS = 100, MARKS = 100, MOST_ENTRIES = 20;
    private static final int MOST_AHEAD = 60, MOST_AT_ONCE = 30, LAST_DAY = 90000;
    private static final long BILLION = 1000000000L;

    private final Text text = new Text();
    private final State now = new State();
    /** What is tried is done to this one, so that nothing changes by it. */
    private final State trial = new State();
    private final Contest contest = new Contest();
    private final Past past = new Past();
    private final Image[] images = new Image[IMAGES];
    private final Sightings sightings = new Sightings();
    private final Book book = new Book();
    private Realm realm = new Realm();
    /** A text is read into this one first: with a fault the realm must stay as it was. */
    private Realm draft = new Realm();
    private int drawSeed = 0;

    public SecondBest() {
        for (int i = 0; i < IMAGES; i++) {
            images[i] = new Image();
        }
    }

    // ---- the kingdom

    public int feed(int letter) {
        if (!isWithin(letter, 0, 255)) {
            return OUTSIDE;
        }
        if (text.length >= MOST_LETTERS) {
            return FULL;
        }
        return text.append(letter);
    }

    public int kingdom() {
        text.readInto(draft);
        if (text.faultNumber != 0) {
            return -10 - text.faultNumber;
        }
        Realm old = realm;
        realm = draft;
        draft = old;
        now.beginIn(realm);
        past.count = 0;
        for (int i = 0; i < IMAGES; i++) {
            images[i].isKept = false;
        }
        sightings.count = 0;
        book.count = 0;
        return realm.persons;
    }

    public int fault() {
        return text.faultAt;
    }

    public int told(int what) {
        switch (what) {
            case 0: return realm.law;
            case 1: return realm.term;
            case 2: return realm.persons;
            case 3: return realm.offices;
            case 4: return realm.turns;
            case 5: return text.length;
            case 6: return now.days;
            case 7: return now.isRaining ? 1 : 0;
            case 8: return now.courtOf(realm);
            case 9: return now.officesOf(realm, NONE);
            case 10: return now.nearlyOf(realm);
            case 11: return countRings();
            case 12: return now.brillianceOf(realm);
            case 13: return now.logSize();
            case 14: return sightings.count;
            case 15: return book.count;
            case 16: return past.count;
            default: return OUTSIDE;
        }
    }

    public int person(int p, int what) {
        if (!isPerson(p)) {
            return UNKNOWN;
        }
        switch (what) {
            case 0:
            case 1:
            case 2: return now.giftOf(p, what);
            case 3: return realm.daring[p];
            case 4: return now.effortOf[p];
            case 5: return now.coastDays[p];
            case 6: return now.timesSecond[p];
            case 7: return now.officesOf(realm, p);
            default: return OUTSIDE;
        }
    }

    public int office(int o, int what) {
        if (!isOffice(o)) {
            return UNKNOWN;
        }
        switch (what) {
            case 0: return realm.officeKind[o];
            case 1: return now.holderOf[o];
            default: return OUTSIDE;
        }
    }

    public int ahead(int n) {
        if (!isWithin(n, 0, MOST_AHEAD)) {
            return OUTSIDE;
        }
        return realm.isThere() ? realm.kindOfDay(now.days + n) : NOT;
    }

    public int logged(int i, int what) {
        if (!isWithin(what, 0, LOG_PARTS - 1)) {
            return OUTSIDE;
        }
        return now.logEntry(i, what);
    }

    // ---- deeds

    public int day(int n) {
        int refusal = whyNoDays(n);
        if (refusal != 0) {
            return refusal;
        }
        for (int i = 0; i < n; i++) {
            past.remember(now);
            now.passDay(realm, contest);
        }
        return now.days;
    }

    public int effort(int p, int e) {
        if (!isPerson(p)) {
            return UNKNOWN;
        }
        if (!isWithin(e, 0, EFFORTS - 1)) {
            return OUTSIDE;
        }
        past.remember(now);
        int was = now.effortOf[p];
        now.effortOf[p] = e;
        return was;
    }

    public int rain(boolean is) {
        if (!realm.isThere()) {
            return NOT;
        }
        past.remember(now);
        int was = now.isRaining ? 1 : 0;
        now.isRaining = is;
        return was;
    }

    public int teach(int p, int kind, int v) {
        if (!isPerson(p)) {
            return UNKNOWN;
        }
        if (!isKind(kind) || !isWithin(v, 0, MOST_GIFT)) {
            return OUTSIDE;
        }
        past.remember(now);
        int was = now.giftOf(p, kind);
        now.setGift(p, kind, v);
        return was;
    }

    public int send(int p) {
        if (!isPerson(p)) {
            return UNKNOWN;
        }
        if (!now.isAtCourt(p)) {
            return NOT;
        }
        past.remember(now);
        now.toCoast(realm, p);
        return Integer.bitCount(now.courtOf(realm));
    }

    public int recall(int p) {
        if (!isPerson(p)) {
            return UNKNOWN;
        }
        if (now.isAtCourt(p)) {
            return NOT;
        }
        past.remember(now);
        now.coastDays[p] = 0;
        return Integer.bitCount(now.courtOf(realm));
    }

    public int drift(int n) {
        int refusal = whyNoDays(n);
        if (refusal != 0) {
            return refusal;
        }
        for (int i = 0; i < n; i++) {
            past.remember(now);
            drawWeatherAndEffort();
            now.passDay(realm, contest);
        }
        return now.days;
    }

    public int undo(int n) {
        if (!isWithin(n, 1, MOST_UNDONE)) {
            return OUTSIDE;
        }
        if (n > past.count) {
            return NOT;
        }
        past.takeBack(now, n);
        return now.days;
    }

    // ---- tried

    public int mark(int p, int kind) {
        if (!isPerson(p)) {
            return UNKNOWN;
        }
        return isKind(kind) ? now.markOf(realm, p, kind) : OUTSIDE;
    }

    public int place(int p, int kind) {
        if (!isPerson(p)) {
            return UNKNOWN;
        }
        if (!isKind(kind)) {
            return OUTSIDE;
        }
        if (!now.isAtCourt(p)) {
            return NONE;
        }
        contest.rank(realm, now, kind);
        return contest.placeOf(realm, now, p);
    }

    public int wouldBe(int kind, int what) {
        if (!isKind(kind) || !isWithin(what, 0, 1)) {
            return OUTSIDE;
        }
        contest.rank(realm, now, kind);
        return what == 0 ? contest.firsts : contest.second;
    }

    public int holds(int o, int n) {
        if (!isOffice(o)) {
            return UNKNOWN;
        }
        if (!isWithin(n, 0, MOST_AHEAD)) {
            return OUTSIDE;
        }
        trial.copyFrom(now);
        return holderBehind(o, n);
    }

    public int efforts(int p, int kind) {
        if (!isPerson(p)) {
            return UNKNOWN;
        }
        if (!isKind(kind)) {
            return OUTSIDE;
        }
        return now.isAtCourt(p) ? secondByEfforts(p, kind) : NOT;
    }

    public int restless(int kind) {
        if (!isKind(kind)) {
            return OUTSIDE;
        }
        int set = 0;
        for (int p = 0; p < realm.persons; p++) {
            if (isRestless(p, kind)) {
                set |= 1 << p;
            }
        }
        return set;
    }

    public int letWin(int p, int kind, int what) {
        if (!isPerson(p)) {
            return UNKNOWN;
        }
        if (!isKind(kind) || !isWithin(what, 0, 1)) {
            return OUTSIDE;
        }
        if (!now.isAtCourt(p)) {
            return NOT;
        }
        int set = fewestWhoLet(p, kind);
        return set == NONE || what == 1 ? set : Integer.bitCount(set);
    }

    public int win(int p, int o, int n) {
        if (!isPerson(p) || !isOffice(o)) {
            return UNKNOWN;
        }
        if (!isWithin(n, 1, MOST_AHEAD)) {
            return OUTSIDE;
        }
        for (int e = 0; e < EFFORTS; e++) {
            trial.copyFrom(now);
            trial.effortOf[p] = e;
            if (holderBehind(o, n) == p) {
                return e;
            }
        }
        return NONE;
    }

    public int next(int p) {
        if (!isPerson(p)) {
            return UNKNOWN;
        }
        int set = 0;
        for (int kind = 0; kind < KINDS; kind++) {
            if (secondIn(now, kind) == p) {
                set |= 1 << kind;
            }
        }
        return set;
    }

    public int beats(int p, int q) {
        if (!isPerson(p) || !isPerson(q) || p == q) {
            return UNKNOWN;
        }
        return now.hasMoreGifts(p, q) ? 1 : 0;
    }

    public int spread(int kind) {
        return isKind(kind) ? now.spreadOf(realm, kind) : OUTSIDE;
    }

    public int dry(int n, int q) {
        if (!isWithin(n, 0, MOST_AHEAD) || !isWithin(q, 0, 100)) {
            return OUTSIDE;
        }
        long odds = BILLION;
        for (int i = 0; i < n; i++) {
            odds = odds * q / 100;
        }
        return (int) odds;
    }

    // ---- what was seen

    public int see(int e, int m) {
        if (!isWithin(e, 0, EFFORTS - 1) || !isWithin(m, 0, MARKS - 1)) {
            return OUTSIDE;
        }
        if (sightings.count >= MOST_SEEN) {
            return FULL;
        }
        return sightings.append(e, m);
    }

    public int truly(int what) {
        switch (what) {
            case 0: return sightings.countFitting();
            case 1: return sightings.leastFitting();
            default: return OUTSIDE;
        }
    }

    public int tryNext() {
        return sightings.bestEffort();
    }

    public int write(int o, int p) {
        if (!isOffice(o) || p != NONE && !isPerson(p)) {
            return UNKNOWN;
        }
        if (book.count >= MOST_ENTRIES) {
            return FULL;
        }
        return book.append(o, p);
    }

    public int judge() {
        return book.firstWrong(now);
    }

    public int tear() {
        int had = sightings.count + book.count;
        sightings.count = 0;
        book.count = 0;
        return had;
    }

    // ---- images

    public int seed(int v) {
        if (v < 0) {
            return OUTSIDE;
        }
        int was = drawSeed;
        drawSeed = v;
        return was;
    }

    public int keep(int i) {
        if (!isWithin(i, 0, IMAGES - 1)) {
            return UNKNOWN;
        }
        images[i].isKept = true;
        images[i].state.copyFrom(now);
        images[i].drawSeed = drawSeed;
        past.count = 0;
        return 1;
    }

    public int goBack(int i) {
        if (!isWithin(i, 0, IMAGES - 1)) {
            return UNKNOWN;
        }
        if (!images[i].isKept) {
            return NOT;
        }
        now.copyFrom(images[i].state);
        drawSeed = images[i].drawSeed;
        past.count = 0;
        return 1;
    }

    // ---- helpers

    private static boolean isWithin(int v, int least, int most) {
        return v >= least && v <= most;
    }

    private static boolean isKind(int kind) {
        return isWithin(kind, 0, KINDS - 1);
    }

    private boolean isPerson(int p) {
        return isWithin(p, 0, realm.persons - 1);
    }

    private boolean isOffice(int o) {
        return isWithin(o, 0, realm.offices - 1);
    }

    /** The refusal of n days, in the document's order; 0: none. */
    private int whyNoDays(int n) {
        if (!isWithin(n, 1, MOST_AT_ONCE)) {
            return OUTSIDE;
        }
        if (!realm.isThere()) {
            return NOT;
        }
        return now.days > LAST_DAY ? FULL : 0;
    }

    private int draw(int n) {
        // int arithmetic wraps by 2 to the 32: the low 31 bits are what is left over by 2 to the 31
        drawSeed = (drawSeed * 1103515245 + 12345) & 0x7fffffff;
        return n < 1 ? 0 : drawSeed / 65536 % n;
    }

    private void drawWeatherAndEffort() {
        if (realm.persons > 0) {
            int p = draw(realm.persons);
            now.effortOf[p] = draw(EFFORTS);
        }
        now.isRaining = draw(4) == 0;
    }

    private int secondIn(State state, int kind) {
        contest.rank(realm, state, kind);
        return contest.second;
    }

    /** Who holds an office when the trial has gone on for n days. */
    private int holderBehind(int o, int n) {
        for (int i = 0; i < n; i++) {
            trial.passDay(realm, contest);
        }
        return trial.holderOf[o];
    }

    private int secondByEfforts(int p, int kind) {
        int set = 0;
        trial.copyFrom(now);
        for (int e = 0; e < EFFORTS; e++) {
            trial.effortOf[p] = e;
            if (secondIn(trial, kind) == p) {
                set |= 1 << e;
            }
        }
        return set;
    }

    private boolean isRestless(int p, int kind) {
        return now.isAtCourt(p) && secondIn(now, kind) != p && secondByEfforts(p, kind) != 0;
    }

    /** Sets come from the least on: only a smaller one takes the place of an earlier one. */
    private int fewestWhoLet(int p, int kind) {
        int others = now.courtOf(realm) & ~(1 << p);
        int best = NONE;
        for (int set = 0; set <= others; set++) {
            boolean isFewer = best == NONE || Integer.bitCount(set) < Integer.bitCount(best);
            if ((set & ~others) == 0 && isFewer && isSecondIfLet(p, kind, set)) {
                best = set;
            }
        }
        return best;
    }

    private boolean isSecondIfLet(int p, int kind, int set) {
        trial.copyFrom(now);
        for (int q = 0; q < realm.persons; q++) {
            if ((set >> q & 1) == 1) {
                trial.effortOf[q] = 0;
            }
        }
        return secondIn(trial, kind) == p;
    }

    private int countRings() {
        int rings = 0;
        for (int a = 0; a < realm.persons; a++) {
            for (int b = a + 1; b < realm.persons; b++) {
                for (int c = b + 1; c < realm.persons; c++) {
                    if (now.isRing(a, b, c) || now.isRing(a, c, b)) {
                        rings++;
                    }
                }
            }
        }
        return rings;
    }

    /** What a text tells once and for all; gifts are those at first. */
    private static final class Realm {
        final int[] gifts = new int[MOST_PERSONS * KINDS];
        final int[] daring = new int[MOST_PERSONS];
        final int[] kindOfTurn = new int[MOST_TURNS];
        final int[] officeKind = new int[MOST_OFFICES];
        int law = NONE;
        int term = 0;
        int persons = 0;
        int turns = 0;
        int offices = 0;

        boolean isThere() {
            return law != NONE;
        }

        void clear() {
            law = NONE;
            term = 0;
            persons = 0;
            turns = 0;
            offices = 0;
        }

        int kindOfDay(int k) {
            return turns < 1 ? 0 : kindOfTurn[k % turns];
        }
    }

    /** The letters that were fed, and how they are read, up to the first fault. */
    private static final class Text {
        final int[] letters = new int[MOST_LETTERS];
        int length = 0;
        int at = 0;
        /** 0: none. */
        int faultNumber = 0;
        int faultAt = NONE;

        int append(int letter) {
            if (length < MOST_LETTERS) {
                letters[length] = letter;
                length++;
            }
            return length;
        }

        void readInto(Realm draft) {
            at = 0;
            faultNumber = 0;
            faultAt = NONE;
            draft.clear();
            skipBlanks();
            for (int clause = 0; clause < MOST_LETTERS && at < length && faultNumber == 0; clause++) {
                readClause(draft);
                skipBlanks();
            }
            length = 0;
        }

        private void readClause(Realm draft) {
            int word = letters[at];
            int why = whyNoWord(word, draft);
            if (why != 0) {
                blame(why, at);
                return;
            }
            at++;
            switch (word) {
                case 'k': readLaw(draft); break;
                case 'p': readPerson(draft); break;
                case 'd': readTurns(draft); break;
                default: readOffice(draft); break;
            }
            readSign(';');
        }

        private static int whyNoWord(int word, Realm draft) {
            if (word == 'k') {
                return draft.isThere() ? TOO_MANY : 0;
            }
            if (!draft.isThere()) {
                return CANNOT_STAND;
            }
            switch (word) {
                case 'p': return draft.persons < MOST_PERSONS ? 0 : TOO_MANY;
                case 'd': return draft.turns < 1 ? 0 : TOO_MANY;
                case 'o': return draft.offices < MOST_OFFICES ? 0 : TOO_MANY;
                default: return CANNOT_STAND;
            }
        }

        private void readLaw(Realm draft) {
            draft.law = readNumber(0, 2);
            draft.term = readNumber(1, 9);
        }

        private void readPerson(Realm draft) {
            int p = draft.persons;
            for (int kind = 0; kind < KINDS; kind++) {
                draft.gifts[p * KINDS + kind] = readNumber(0, MOST_GIFT);
            }
            draft.daring[p] = readNumber(0, 9);
            draft.persons++;
        }

        private void readTurns(Realm draft) {
            do {
                draft.kindOfTurn[draft.turns] = readNumber(0, KINDS - 1);
                draft.turns++;
            } while (draft.turns < MOST_TURNS && isNext(','));
        }

        private void readOffice(Realm draft) {
            draft.officeKind[draft.offices] = readNumber(0, KINDS - 1);
            draft.offices++;
        }

        private int readNumber(int least, int most) {
            skipBlanks();
            if (at >= length || !isFigure(letters[at])) {
                blame(CANNOT_STAND, at);
                return least;
            }
            int first = at;
            int v = 0;
            while (at < length && isFigure(letters[at])) {
                // four figures are a fault whatever they say, and 240 of them would not fit
                v = at - first < 3 ? v * 10 + letters[at] - '0' : v;
                at++;
            }
            if (at - first > 3 || v < least || v > most) {
                blame(WRONG_NUMBER, first);
            }
            return v;
        }

        private void readSign(int sign) {
            if (!isNext(sign)) {
                blame(CANNOT_STAND, at);
            }
        }

        /** Goes past the sign, if it comes next. */
        private boolean isNext(int sign) {
            skipBlanks();
            if (at < length && letters[at] == sign) {
                at++;
                return true;
            }
            return false;
        }

        private void skipBlanks() {
            while (at < length && letters[at] == ' ') {
                at++;
            }
        }

        private static boolean isFigure(int letter) {
            return letter >= '0' && letter <= '9';
        }

        /** Reading goes from left to right, so the first fault that is found is the one to tell. */
        private void blame(int number, int where) {
            if (faultNumber == 0) {
                faultNumber = number;
                faultAt = where;
            }
        }
    }

    /** All of the document's section 2 that changes: what is undone, and what images keep. */
    private static final class State {
        final int[] gifts = new int[MOST_PERSONS * KINDS];
        final int[] effortOf = new int[MOST_PERSONS];
        /** 0: at court. */
        final int[] coastDays = new int[MOST_PERSONS];
        final int[] timesSecond = new int[MOST_PERSONS];
        final int[] holderOf = new int[MOST_OFFICES];
        /** A ring, an entry's parts side by side. */
        final int[] log = new int[LOG_SIZE * LOG_PARTS];
        /** All contests so far, those that the ring has lost, too. */
        int contests = 0;
        int days = 0;
        boolean isRaining = false;

        void beginIn(Realm realm) {
            System.arraycopy(realm.gifts, 0, gifts, 0, MOST_PERSONS * KINDS);
            for (int p = 0; p < MOST_PERSONS; p++) {
                effortOf[p] = FIRST_EFFORT;
                coastDays[p] = 0;
                timesSecond[p] = 0;
            }
            for (int o = 0; o < MOST_OFFICES; o++) {
                holderOf[o] = NONE;
            }
            contests = 0;
            days = 0;
            isRaining = false;
        }

        void copyFrom(State other) {
            System.arraycopy(other.gifts, 0, gifts, 0, MOST_PERSONS * KINDS);
            System.arraycopy(other.effortOf, 0, effortOf, 0, MOST_PERSONS);
            System.arraycopy(other.coastDays, 0, coastDays, 0, MOST_PERSONS);
            System.arraycopy(other.timesSecond, 0, timesSecond, 0, MOST_PERSONS);
            System.arraycopy(other.holderOf, 0, holderOf, 0, MOST_OFFICES);
            System.arraycopy(other.log, 0, log, 0, LOG_SIZE * LOG_PARTS);
            contests = other.contests;
            days = other.days;
            isRaining = other.isRaining;
        }

        int giftOf(int p, int kind) {
            return gifts[p * KINDS + kind];
        }

        void setGift(int p, int kind, int v) {
            gifts[p * KINDS + kind] = v;
        }

        boolean isAtCourt(int p) {
            return coastDays[p] == 0;
        }

        int courtOf(Realm realm) {
            int set = 0;
            for (int p = 0; p < realm.persons; p++) {
                if (isAtCourt(p)) {
                    set |= 1 << p;
                }
            }
            return set;
        }

        int officesOf(Realm realm, int holder) {
            int set = 0;
            for (int o = 0; o < realm.offices; o++) {
                if (holderOf[o] == holder) {
                    set |= 1 << o;
                }
            }
            return set;
        }

        int markOf(Realm realm, int p, int kind) {
            int daring = realm.daring[p];
            return giftOf(p, kind) * effortOf[p] + (isRaining ? daring / 2 : daring);
        }

        void toCoast(Realm realm, int p) {
            coastDays[p] = realm.term;
            for (int o = 0; o < realm.offices; o++) {
                if (holderOf[o] == p) {
                    holderOf[o] = NONE;
                }
            }
        }

        void passDay(Realm realm, Contest contest) {
            int kind = realm.kindOfDay(days);
            int court = courtOf(realm);
            if (court != 0) {
                contest.rank(realm, this, kind);
                settle(realm, contest, kind);
            }
            for (int p = 0; p < realm.persons; p++) {
                // who is sent only today has all days yet to go
                if ((court >> p & 1) == 0) {
                    coastDays[p]--;
                }
            }
            days++;
        }

        private void settle(Realm realm, Contest contest, int kind) {
            for (int p = 0; p < realm.persons; p++) {
                if (contest.isFirst(p)) {
                    toCoast(realm, p);
                }
            }
            if (contest.second != NONE) {
                promote(realm, contest.second, kind);
            }
            logContest(kind, contest);
        }

        private void promote(Realm realm, int p, int kind) {
            for (int o = 0; o < realm.offices; o++) {
                if (realm.officeKind[o] == kind) {
                    holderOf[o] = p;
                }
            }
            timesSecond[p]++;
            setGift(p, kind, Math.max(0, giftOf(p, kind) - 1));
        }

        private void logContest(int kind, Contest contest) {
            int at = contests % LOG_SIZE * LOG_PARTS;
            log[at] = days;
            log[at + 1] = kind;
            log[at + 2] = contest.leader;
            log[at + 3] = contest.second;
            contests++;
        }

        int logSize() {
            return Math.min(contests, LOG_SIZE);
        }

        /** Entry 0 is the latest. */
        int logEntry(int i, int what) {
            if (i < 0 || i >= logSize()) {
                return NONE;
            }
            return log[(contests - 1 - i) % LOG_SIZE * LOG_PARTS + what];
        }

        int nearlyOf(Realm realm) {
            int first = NONE;
            int nearly = NONE;
            for (int p = 0; p < realm.persons; p++) {
                if (first == NONE || timesSecond[p] > timesSecond[first]) {
                    nearly = first;
                    first = p;
                } else if (nearly == NONE || timesSecond[p] > timesSecond[nearly]) {
                    nearly = p;
                }
            }
            return nearly;
        }

        boolean hasMoreGifts(int p, int q) {
            int ahead = 0;
            for (int kind = 0; kind < KINDS; kind++) {
                ahead += Integer.compare(giftOf(p, kind), giftOf(q, kind));
            }
            return ahead > 0;
        }

        boolean isRing(int a, int b, int c) {
            return hasMoreGifts(a, b) && hasMoreGifts(b, c) && hasMoreGifts(c, a);
        }

        int brillianceOf(Realm realm) {
            int sum = 0;
            for (int p = 0; p < realm.persons; p++) {
                for (int kind = 0; kind < KINDS && !isAtCourt(p); kind++) {
                    sum += giftOf(p, kind);
                }
            }
            return sum;
        }

        int spreadOf(Realm realm, int kind) {
            if (realm.persons < 1) {
                return 0;
            }
            int least = giftOf(0, kind);
            int most = least;
            for (int p = 1; p < realm.persons; p++) {
                least = Math.min(least, giftOf(p, kind));
                most = Math.max(most, giftOf(p, kind));
            }
            return most - least;
        }
    }

    /** How all at court are ranked in one kind. */
    private static final class Contest {
        final int[] marks = new int[MOST_PERSONS];
        /** A set. */
        int firsts = 0;
        /** The least of the first ones. */
        int leader = NONE;
        int second = NONE;

        void rank(Realm realm, State state, int kind) {
            for (int p = 0; p < realm.persons; p++) {
                marks[p] = state.markOf(realm, p, kind);
            }
            firsts = 0;
            leader = foremost(realm, state);
            if (leader != NONE) {
                firsts = realm.law == LAW_OF_ALL_FIRST ? allLike(realm, state, leader) : 1 << leader;
            }
            second = foremost(realm, state);
        }

        boolean isFirst(int p) {
            return (firsts >> p & 1) == 1;
        }

        int placeOf(Realm realm, State state, int p) {
            if (isFirst(p)) {
                return 0;
            }
            int place = 1;
            for (int q = 0; q < realm.persons; q++) {
                if (state.isAtCourt(q) && !isFirst(q) && q != p && isAheadOf(realm, q, p)) {
                    place++;
                }
            }
            return place;
        }

        /** The best at court who is not among the first ones. */
        private int foremost(Realm realm, State state) {
            int best = NONE;
            for (int p = 0; p < realm.persons; p++) {
                if (state.isAtCourt(p) && !isFirst(p) && (best == NONE || isAheadOf(realm, p, best))) {
                    best = p;
                }
            }
            return best;
        }

        private int allLike(Realm realm, State state, int p) {
            int set = 0;
            for (int q = 0; q < realm.persons; q++) {
                if (state.isAtCourt(q) && marks[q] == marks[p]) {
                    set |= 1 << q;
                }
            }
            return set;
        }

        private boolean isAheadOf(Realm realm, int p, int q) {
            if (marks[p] != marks[q]) {
                return marks[p] > marks[q];
            }
            if (realm.law == LAW_OF_DARING && realm.daring[p] != realm.daring[q]) {
                return realm.daring[p] > realm.daring[q];
            }
            return p < q;
        }
    }

    /** What was so ahead of the latest deeds, in a ring. */
    private static final class Past {
        final State[] states = new State[MOST_UNDONE];
        int nextAt = 0;
        int count = 0;

        Past() {
            for (int i = 0; i < MOST_UNDONE; i++) {
                states[i] = new State();
            }
        }

        void remember(State now) {
            states[nextAt].copyFrom(now);
            nextAt = (nextAt + 1) % MOST_UNDONE;
            count = Math.min(count + 1, MOST_UNDONE);
        }

        void takeBack(State now, int n) {
            if (n < 1 || n > count) {
                return;
            }
            nextAt = (nextAt + MOST_UNDONE - n) % MOST_UNDONE;
            count -= n;
            now.copyFrom(states[nextAt]);
        }
    }

    private static final class Image {
        final State state = new State();
        int drawSeed = 0;
        boolean isKept = false;
    }

    /** Marks of one whose gift and daring are unknown; a pair is 10 times the gift, and the daring. */
    private static final class Sightings {
        final int[] effortSeen = new int[MOST_SEEN];
        final int[] markSeen = new int[MOST_SEEN];
        final int[] pairsByMark = new int[MARKS];
        int count = 0;

        int append(int e, int m) {
            if (count < MOST_SEEN) {
                effortSeen[count] = e;
                markSeen[count] = m;
                count++;
            }
            return count;
        }

        int countFitting() {
            int fitting = 0;
            for (int pair = 0; pair < PAIRS; pair++) {
                if (isFitting(pair)) {
                    fitting++;
                }
            }
            return fitting;
        }

        int leastFitting() {
            for (int pair = 0; pair < PAIRS; pair++) {
                if (isFitting(pair)) {
                    return pair;
                }
            }
            return NONE;
        }

        int bestEffort() {
            int best = NONE;
            // an effort that leaves all of them alike parts nothing
            int leastPart = countFitting();
            for (int e = 0; e < EFFORTS; e++) {
                int part = greatestPart(e);
                if (part < leastPart) {
                    leastPart = part;
                    best = e;
                }
            }
            return best;
        }

        private int greatestPart(int e) {
            for (int m = 0; m < MARKS; m++) {
                pairsByMark[m] = 0;
            }
            int greatest = 0;
            for (int pair = 0; pair < PAIRS; pair++) {
                if (isFitting(pair)) {
                    int m = markBy(pair, e);
                    pairsByMark[m]++;
                    greatest = Math.max(greatest, pairsByMark[m]);
                }
            }
            return greatest;
        }

        private boolean isFitting(int pair) {
            for (int i = 0; i < count; i++) {
                if (markBy(pair, effortSeen[i]) != markSeen[i]) {
                    return false;
                }
            }
            return true;
        }

        private static int markBy(int pair, int e) {
            return pair / 10 * e + pair % 10;
        }
    }

    /** Who is told to hold which office. */
    private static final class Book {
        final int[] officeAt = new int[MOST_ENTRIES];
        final int[] holderAt = new int[MOST_ENTRIES];
        int count = 0;

        int append(int o, int p) {
            if (count < MOST_ENTRIES) {
                officeAt[count] = o;
                holderAt[count] = p;
                count++;
            }
            return count;
        }

        int firstWrong(State now) {
            for (int i = 0; i < count; i++) {
                if (now.holderOf[officeAt[i]] != holderAt[i]) {
                    return i;
                }
            }
            return NONE;
        }
    }
}
