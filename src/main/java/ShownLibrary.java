/**
 * A library of sayings that two terms are one, with proofs by small steps.
 * The promises are in DOC.md; words in capitals here are those of its section 'Terms'.
 */
public final class ShownLibrary {
    public static final int BAD = -1, STATE = -2, FULL = -3, NONE = -4, SPENT = -6;

    private static final int TAKEN = 0, WISHED = 1, SHOWN = 2, BROKEN = 3;
    private static final int USE = 0, BACK = 1, PUT_IN = 2, PUT_OUT = 3;
    private static final int NO_PLACE = -20, NO_SUCH = -21, NO_FIT = -22, LOOSE_NAME = -23, TOO_LONG = -24;
    private static final int LETTER_M = 12, LETTER_O = 14, LETTER_X = 23;
    private static final int NAMES = 3, MOST_SIGNS = 20, MOST_WORDS = 4, MOST_SAYINGS = 24;
    private static final int MOST_STEPS = 20, MOST_TOLD = 200, LAST_DAY = 999;
    // Answers that carry a place, a step or a fault are counted down from these.
    private static final int AT_PLACE = -10, AT_STEP = -100, LETTER_AT = 10;

    private final Words words;
    private final Sayings sayings;
    private final Tape tape;
    private final Row inHand;
    private final Row tried;
    private final Seeker seeker;
    private final Worlds small;
    private final Likeness likeness;
    private final Sheets sheets;
    private int theHand;
    private int theDay;

    public ShownLibrary() {
        words = new Words();
        sayings = new Sayings();
        tape = new Tape(words, sayings);
        Stepper stepper = new Stepper(words, sayings);
        inHand = new Row(stepper, sayings);
        tried = new Row(stepper, sayings);
        seeker = new Seeker(words, sayings, stepper);
        small = new Worlds(words, sayings);
        likeness = new Likeness(words, sayings);
        sheets = new Sheets();
        theHand = 0;
        theDay = 0;
    }

    // ---- words, sayings

    public int feed(long v) {
        return tape.append(v) ? tape.length : FULL;
    }

    public int end(int n) {
        if (n < 0 || n > tape.length) {
            return BAD;
        }
        int had = tape.length;
        tape.length = n;
        return had;
    }

    public int text() {
        return tape.tellLines(theHand, theDay);
    }

    public int fault() {
        return tape.latestFault;
    }

    public int hand(int h) {
        if (h < 0 || h > 9) {
            return BAD;
        }
        int was = theHand;
        theHand = h;
        return was;
    }

    public int day(int d) {
        if (d < theDay || d > LAST_DAY) {
            return BAD;
        }
        int was = theDay;
        theDay = d;
        return was;
    }

    public int of(int e, int what) {
        Saying s = sayings.get(e);
        if (s == null) {
            return BAD;
        }
        switch (what) {
            case 0: return s.state;
            case 1: return s.byHand;
            case 2: return s.onDay;
            case 3: return s.left.size;
            case 4: return s.right.size;
            case 5: return s.steps;
            case 6: return s.state == BROKEN ? s.brokenAt : NONE;
            case 7: return Integer.bitCount(sayings.underOf(e));
            case 8: return Integer.bitCount(sayings.overOf(e));
            default: return BAD;
        }
    }

    public int sign(int e, int side, int i) {
        Saying s = sayings.get(e);
        if (s == null || side < 0 || side > 1 || i < 0) {
            return BAD;
        }
        return side == 0 ? s.left.at(i) : s.right.at(i);
    }

    public int word(int w, int what) {
        Term meaning = words.meaningOf(w);
        if (meaning == null) {
            return BAD;
        }
        switch (what) {
            case 0: return words.letterOf(w);
            case 1: return words.needOf(w);
            case 2: return meaning.size;
            case 3: return sayings.shownPutting(w);
            default: return letterAt(meaning, what);
        }
    }

    public int as(int e, int day) {
        if (sayings.get(e) == null || day < 0 || day > LAST_DAY) {
            return BAD;
        }
        return sayings.stateOn(e, day);
    }

    // ---- proofs

    public int prove(int e) {
        Saying s = sayings.get(e);
        if (s == null) {
            return BAD;
        }
        if (!s.isOpen()) {
            return STATE;
        }
        inHand.begin(e);
        return inHand.now().size;
    }

    public int step(int kind, int which, int place) {
        if (kind < USE || kind > PUT_OUT) {
            return BAD;
        }
        return inHand.isDropped() ? STATE : inHand.go(kind, which, place);
    }

    public int undo() {
        return inHand.goBack();
    }

    public int proof(int what) {
        if (what >= LETTER_AT && !inHand.isDropped()) {
            return letterAt(inHand.now(), what);
        }
        if (what < 0 || what > 3) {
            return BAD;
        }
        if (inHand.isDropped()) {
            return STATE;
        }
        switch (what) {
            case 0: return inHand.wish;
            case 1: return inHand.size;
            case 2: return inHand.now().size;
            default: return inHand.arrived() ? 1 : 0;
        }
    }

    public int show() {
        if (inHand.isDropped() || !inHand.arrived()) {
            return STATE;
        }
        return tell(inHand);
    }

    public int stepOf(int e, int i, int what) {
        Saying s = sayings.get(e);
        if (s == null || i < 0 || what < 0 || what > 2) {
            return BAD;
        }
        if (s.steps < 0) {
            return NONE;
        }
        return i < s.steps ? sayings.toldAt(s.firstStep + i, what) : BAD;
    }

    public int leans(int e, int what) {
        if (sayings.get(e) == null) {
            return BAD;
        }
        switch (what) {
            case 0: return sayings.underOf(e);
            case 1: return sayings.underOf(e) & sayings.maskOf(TAKEN);
            case 2: return sayings.overOf(e);
            default: return BAD;
        }
    }

    // ---- changes, seeking

    public int change(int w) {
        if (words.meaningOf(w) == null) {
            return BAD;
        }
        int answer = tape.tellMeaning(w);
        if (answer < 0) {
            return answer;
        }
        inHand.drop();
        return sayings.tryAgain(w, tried, theDay);
    }

    public int seek(int e, int n, int s, int what) {
        if (what < 0 || what > 1) {
            return BAD;
        }
        int answer = sought(e, n, s);
        if (what == 1 && (answer >= 0 || answer == NONE)) {
            return seeker.met;
        }
        return answer;
    }

    public int take(int e, int n, int s) {
        int answer = sought(e, n, s);
        if (answer < 0) {
            return answer;
        }
        seeker.layOut(e, tried);
        return tell(tried);
    }

    /** How many STEPS SEEK needs, or why there is no answer. */
    private int sought(int e, int n, int s) {
        Saying wish = sayings.get(e);
        if (wish == null || n < 0 || n > 8 || s < 1 || s > MOST_SIGNS) {
            return BAD;
        }
        return wish.isOpen() ? seeker.run(e, n, s) : STATE;
    }

    // ---- worlds

    public int holds(int e, int n, int world) {
        Saying s = sayings.get(e);
        if (s == null || world < 0 || world >= small.howMany(n)) {
            return BAD;
        }
        small.enter(n, world);
        return small.isTrue(s) ? 1 : 0;
    }

    public int worlds(int n, int what) {
        if (n < 1 || n > 2 || what < 0 || what > 1) {
            return BAD;
        }
        return what == 0 ? small.countGrounded(n) : small.leastGrounded(n, null);
    }

    public int denied(int e, int n) {
        Saying s = sayings.get(e);
        if (s == null || n < 1 || n > 2) {
            return BAD;
        }
        return small.leastGrounded(n, s);
    }

    // ---- finding, teaching

    public int like(int e, int f, int how) {
        if (sayings.get(e) == null || sayings.get(f) == null || how < 0 || how > 7) {
            return BAD;
        }
        return likeness.begin(e, how) && likeness.isLike(f) ? 1 : 0;
    }

    public int find(int e, int how, int what) {
        if (sayings.get(e) == null || how < 0 || how > 7 || what < 0 || what > 1) {
            return BAD;
        }
        int found = likeness.allLike(e, how);
        if (what == 0) {
            return Integer.bitCount(found);
        }
        return found == 0 ? NONE : Integer.numberOfTrailingZeros(found);
    }

    public int teach(int e, int known, int what) {
        int place = what - LETTER_AT;
        boolean told = what == 0 || what >= LETTER_AT && place < MOST_SAYINGS;
        if (sayings.get(e) == null || known < 0 || known >= 1 << sayings.size || !told) {
            return BAD;
        }
        int lessons = (1 << e | sayings.underOf(e)) & ~known;
        return what == 0 ? Integer.bitCount(lessons) : sayings.lessonAt(lessons, place);
    }

    // ---- sheets

    public int sheet(int k, int lane, int n) {
        if (!sheets.isSheet(k) || !sheets.isLane(lane) || n > Sheets.MOST_CELLS) {
            return BAD;
        }
        return n < 0 ? AT_PLACE - Sheets.SIZE : sheets.renew(k, lane, n);
    }

    public int lay(int k, int i, int v) {
        if (!sheets.isSheet(k)) {
            return BAD;
        }
        return sheets.write(k, i, v);
    }

    public int read(int e, int k, int lane, int f, int n) {
        Saying s = sayings.get(e);
        if (s == null || !sheets.isSheet(k) || !sheets.isLane(lane) || n < 0 || n > MOST_STEPS) {
            return BAD;
        }
        if (!s.isOpen()) {
            return STATE;
        }
        int found = sheets.faultOf(k, lane, f, 3 * n);
        if (found != 0) {
            return AT_PLACE - found;
        }
        int gone = goBySheet(e, k, f, n);
        if (gone < n) {
            return AT_STEP - gone;
        }
        if (!tried.arrived()) {
            return 0;
        }
        return tell(tried) == FULL ? FULL : 1;
    }

    public int count(int what) {
        switch (what) {
            case 0: return sayings.size;
            case 1: return Integer.bitCount(sayings.maskOf(TAKEN));
            case 2: return Integer.bitCount(sayings.maskOf(WISHED));
            case 3: return Integer.bitCount(sayings.maskOf(SHOWN));
            case 4: return Integer.bitCount(sayings.maskOf(BROKEN));
            case 5: return words.size;
            case 6: return sayings.told;
            case 7: return theHand;
            case 8: return theDay;
            case 9: return tape.length;
            case 10: return sheets.cellsOf(0);
            default: return BAD;
        }
    }

    /** The letter that 10 and i ask for; an i that the TERM has not is BAD. */
    private int letterAt(Term term, int what) {
        if (what < LETTER_AT || what - LETTER_AT >= term.size) {
            return BAD;
        }
        return term.at(what - LETTER_AT);
    }

    /** Tells a row that has come to its right TERM; THE PROOF in hand of the same SAYING has no use then. */
    private int tell(Row row) {
        int steps = row.size;
        if (!sayings.tellProof(row, theDay)) {
            return FULL;
        }
        if (inHand.wish == row.wish) {
            inHand.drop();
        }
        return steps;
    }

    /** Goes n STEPS as a SHEET says: how many of them went. */
    private int goBySheet(int e, int k, int f, int n) {
        tried.begin(e);
        for (int i = 0; i < n; i++) {
            int kind = sheets.cell(k, f + 3 * i);
            int which = sheets.cell(k, f + 3 * i + 1);
            int place = sheets.cell(k, f + 3 * i + 2);
            if (kind < USE || kind > PUT_OUT || tried.go(kind, which, place) < 0) {
                return i;
            }
        }
        return n;
    }

    /** A row of SIGNS (letters, a is 0). Its size never goes beyond its room. */
    private static final class Term {
        private final byte[] signs;
        int size;

        Term(int room) {
            signs = new byte[Math.max(room, 0)];
            size = 0;
        }

        int at(int place) {
            return place >= 0 && place < size ? signs[place] : NONE;
        }

        boolean add(int letter) {
            if (size >= signs.length) {
                return false;
            }
            signs[size] = (byte) letter;
            size++;
            return true;
        }

        /** Adds the SIGNS of another TERM from a place on, those behind a later one left out. */
        boolean addPart(Term other, int from, int behind) {
            if (from < 0 || from > behind || behind > other.size || behind - from > signs.length - size) {
                return false;
            }
            for (int i = from; i < behind; i++) {
                signs[size] = other.signs[i];
                size++;
            }
            return true;
        }

        void copy(Term other) {
            size = 0;
            addPart(other, 0, other.size);
        }

        void set(int place, int letter) {
            if (place >= 0 && place < size) {
                signs[place] = (byte) letter;
            }
        }

        boolean same(Term other) {
            return size == other.size && samePart(0, size, other, 0);
        }

        /** Whether the SIGNS from one place to a later one are those of another TERM from a place on. */
        boolean samePart(int from, int behind, Term other, int start) {
            if (from < 0 || start < 0 || behind > size || behind - from > other.size - start) {
                return false;
            }
            for (int i = from; i < behind; i++) {
                if (signs[i] != other.signs[start + i - from]) {
                    return false;
                }
            }
            return true;
        }

        int mark() {
            int mark = size;
            for (int i = 0; i < size; i++) {
                mark = 31 * mark + signs[i];
            }
            return mark;
        }
    }

    /** The WORDS. Each has a face, its sign with x (and y) behind it: PUT IN goes from face to MEANING, PUT OUT back. */
    private static final class Words {
        private final int[] letters = new int[MOST_WORDS];
        private final int[] needs = new int[MOST_WORDS];
        private final int[] numbers = new int[MOST_WORDS];
        private final Term[] faces = new Term[MOST_WORDS];
        private final Term[] meanings = new Term[MOST_WORDS];
        int size;

        Words() {
            for (int i = 0; i < MOST_WORDS; i++) {
                numbers[i] = NONE;
                faces[i] = new Term(NAMES);
                meanings[i] = new Term(MOST_SIGNS);
            }
            size = 0;
        }

        void add(int letter, int need, Term meaning) {
            if (size >= MOST_WORDS || letter < 0 || letter >= MOST_WORDS) {
                return;
            }
            letters[size] = letter;
            needs[size] = need;
            numbers[letter] = size;
            meanings[size].copy(meaning);
            Term face = faces[size];
            face.size = 0;
            face.add(letter);
            for (int i = 0; i < need && i < NAMES; i++) {
                face.add(LETTER_X + i);
            }
            size++;
        }

        /** Forgets all WORDS but the first ones. */
        void keep(int first) {
            for (int w = Math.max(first, 0); w < size; w++) {
                numbers[letters[w]] = NONE;
            }
            size = Math.min(size, Math.max(first, 0));
        }

        int numberOf(int letter) {
            return letter >= 0 && letter < MOST_WORDS ? numbers[letter] : NONE;
        }

        int letterOf(int w) {
            return w >= 0 && w < size ? letters[w] : BAD;
        }

        int needOf(int w) {
            return w >= 0 && w < size ? needs[w] : BAD;
        }

        Term meaningOf(int w) {
            return w >= 0 && w < size ? meanings[w] : null;
        }

        Term faceOf(int w) {
            return w >= 0 && w < size ? faces[w] : null;
        }

        /** How many TERMS stand behind a sign of a TERM. */
        int behind(int letter) {
            if (letter == LETTER_M) {
                return 2;
            }
            int w = letter >= 0 && letter < MOST_WORDS ? numbers[letter] : NONE;
            return w >= 0 && w < size ? needs[w] : 0;
        }

        /** Whether a row is a TERM with so many of the NAMES and so many of the WORDS. */
        boolean isTerm(Term row, int names, int ahead) {
            int open = 1;
            for (int i = 0; i < row.size; i++) {
                if (open == 0 || !mayStand(row.at(i), names, ahead)) {
                    return false;
                }
                open += behind(row.at(i)) - 1;
            }
            return open == 0;
        }

        private boolean mayStand(int letter, int names, int ahead) {
            if (letter >= LETTER_X) {
                return letter - LETTER_X < names;
            }
            if (letter == LETTER_M || letter == LETTER_O) {
                return true;
            }
            int w = numberOf(letter);
            return w >= 0 && w < ahead;
        }

        /** The place behind the TERM that begins at a place. */
        int endOf(Term term, int place) {
            int open = 1;
            int p = place;
            while (p < term.size && open > 0) {
                open += behind(term.at(p)) - 1;
                p++;
            }
            return p;
        }
    }

    /** One SAYING, and where the STEPS of its latest PROOF are told. */
    private static final class Saying {
        final Term left = new Term(MOST_SIGNS);
        final Term right = new Term(MOST_SIGNS);
        int state;
        int byHand;
        int onDay;
        int firstStep;
        int steps;
        int brokenAt;
        int order;
        int under;
        int putting;

        boolean isOpen() {
            return state == WISHED || state == BROKEN;
        }

        boolean isUsable() {
            return state == TAKEN || state == SHOWN;
        }
    }

    /** The SAYINGS, the STEPS of all PROOFS that are told, and what became of each on which day. */
    private static final class Sayings {
        // A PROOF of no STEPS never breaks; each other one takes of the told STEPS, and breaks once at most.
        private static final int MOST_TURNS = 2 * MOST_TOLD + MOST_SAYINGS;

        private final Saying[] all = new Saying[MOST_SAYINGS];
        private final int[] kinds = new int[MOST_TOLD];
        private final int[] whichs = new int[MOST_TOLD];
        private final int[] places = new int[MOST_TOLD];
        private final short[] turnDays = new short[MOST_TURNS];
        private final byte[] turnSayings = new byte[MOST_TURNS];
        private final byte[] turnStates = new byte[MOST_TURNS];
        private int turns;
        private int shows;
        int size;
        int told;

        Sayings() {
            for (int i = 0; i < MOST_SAYINGS; i++) {
                all[i] = new Saying();
            }
        }

        Saying get(int e) {
            return e >= 0 && e < size ? all[e] : null;
        }

        void add(Term left, Term right, int state, int hand, int day) {
            if (size >= MOST_SAYINGS) {
                return;
            }
            Saying s = all[size];
            s.left.copy(left);
            s.right.copy(right);
            s.state = state;
            s.byHand = hand;
            s.onDay = day;
            s.steps = NONE;
            size++;
        }

        /** Forgets all SAYINGS but the first ones. */
        void keep(int first) {
            size = Math.min(size, Math.max(first, 0));
        }

        int maskOf(int state) {
            int mask = 0;
            for (int e = 0; e < size; e++) {
                if (all[e].state == state) {
                    mask |= 1 << e;
                }
            }
            return mask;
        }

        /** What a SAYING LEANS on. */
        int underOf(int e) {
            Saying s = get(e);
            return s != null && s.state == SHOWN ? s.under : 0;
        }

        /** What LEANS on a SAYING. */
        int overOf(int e) {
            int mask = 0;
            for (int f = 0; f < size; f++) {
                if ((underOf(f) >> e & 1) != 0) {
                    mask |= 1 << f;
                }
            }
            return mask;
        }

        int shownPutting(int w) {
            int shown = 0;
            for (int e = 0; e < size; e++) {
                if (all[e].state == SHOWN && (all[e].putting >> w & 1) != 0) {
                    shown++;
                }
            }
            return shown;
        }

        int stateOn(int e, int day) {
            Saying s = get(e);
            if (s == null || day < s.onDay) {
                return NONE;
            }
            int state = s.state == TAKEN ? TAKEN : WISHED;
            for (int i = 0; i < turns; i++) {
                if (turnSayings[i] == e && turnDays[i] <= day) {
                    state = turnStates[i];
                }
            }
            return state;
        }

        private void turn(int e, int state, int day) {
            all[e].state = state;
            if (turns < MOST_TURNS) {
                turnSayings[turns] = (byte) e;
                turnDays[turns] = (short) day;
                turnStates[turns] = (byte) state;
                turns++;
            }
        }

        int toldAt(int i, int what) {
            if (i < 0 || i >= told) {
                return BAD;
            }
            if (what == 0) {
                return kinds[i];
            }
            return what == 1 ? whichs[i] : places[i];
        }

        /** Makes a row the PROOF of its SAYING, if there is room for its STEPS. */
        boolean tellProof(Row row, int day) {
            Saying s = get(row.wish);
            if (s == null || row.size > MOST_TOLD - told) {
                return false;
            }
            s.firstStep = told;
            s.steps = row.size;
            for (int i = 0; i < row.size; i++) {
                kinds[told] = row.kindAt(i);
                whichs[told] = row.whichAt(i);
                places[told] = row.placeAt(i);
                told++;
            }
            s.putting = row.putting();
            s.under = closed(row.using());
            s.order = shows;
            shows++;
            turn(row.wish, SHOWN, day);
            return true;
        }

        /** SAYINGS and all that they LEAN on: each was shown by what was shown ahead of it, so none is ever missed. */
        private int closed(int mask) {
            int closed = mask;
            for (int e = 0; e < size; e++) {
                if ((mask >> e & 1) != 0) {
                    closed |= underOf(e);
                }
            }
            return closed;
        }

        /** Tries again what a CHANGE of a WORD may break: how many it broke. */
        int tryAgain(int w, Row row, int day) {
            int broken = 0;
            int e = shownNext(NONE);
            for (int i = 0; i < MOST_SAYINGS && e >= 0; i++) {
                Saying s = all[e];
                boolean touched = (s.putting >> w & 1) != 0 || (s.under & broken) != 0;
                if (touched && !goesAgain(e, row)) {
                    turn(e, BROKEN, day);
                    broken |= 1 << e;
                }
                e = shownNext(s.order);
            }
            return Integer.bitCount(broken);
        }

        /** The SHOWN one that was shown next behind an order, or NONE. */
        private int shownNext(int order) {
            int next = NONE;
            for (int e = 0; e < size; e++) {
                boolean later = all[e].state == SHOWN && all[e].order > order;
                if (later && (next < 0 || all[e].order < all[next].order)) {
                    next = e;
                }
            }
            return next;
        }

        /** Goes through a told PROOF once more; where it stops is where it is BROKEN. */
        private boolean goesAgain(int e, Row row) {
            Saying s = all[e];
            row.begin(e);
            for (int i = 0; i < s.steps; i++) {
                int at = s.firstStep + i;
                if (row.go(toldAt(at, 0), toldAt(at, 1), toldAt(at, 2)) < 0) {
                    s.brokenAt = i;
                    return false;
                }
            }
            s.brokenAt = s.steps;
            // A changed MEANING may lead a later PUT IN to another WORD.
            s.putting = row.putting();
            return row.arrived();
        }

        /** The one at a place of TEACHING what a mask has. */
        int lessonAt(int mask, int place) {
            int left = mask;
            int next = NONE;
            for (int i = 0; i <= place && i < MOST_SAYINGS; i++) {
                next = lessonNext(left);
                if (next < 0) {
                    return NONE;
                }
                left &= ~(1 << next);
            }
            return next;
        }

        private int lessonNext(int left) {
            for (int e = 0; e < size; e++) {
                if ((left >> e & 1) != 0 && (underOf(e) & left) == 0) {
                    return e;
                }
            }
            return NONE;
        }
    }

    /** The small checker: one STEP of the TERM that it looks at. */
    private static final class Stepper {
        private final Words words;
        private final Sayings sayings;
        private Term subject = new Term(0);
        private final int[] ends = new int[MOST_SIGNS];
        // What the NAMES are replaced by: parts of the subject.
        private final int[] starts = new int[NAMES];
        private final int[] stops = new int[NAMES];
        /** The WORD that the latest STEP put in or out, or NONE. */
        int put;

        Stepper(Words words, Sayings sayings) {
            this.words = words;
            this.sayings = sayings;
        }

        /** Finds where each PLACE ends once, for all STEPS from here. */
        void look(Term term) {
            subject = term;
            for (int p = Math.min(term.size, MOST_SIGNS) - 1; p >= 0; p--) {
                int behind = words.behind(term.at(p));
                int stop = p + 1;
                for (int i = 0; i < behind; i++) {
                    stop = endAt(stop);
                }
                ends[p] = stop;
            }
        }

        private int endAt(int place) {
            return place >= 0 && place < subject.size && place < MOST_SIGNS ? ends[place] : subject.size;
        }

        /** Goes one STEP and writes the TERM that comes of it: its SIGNS, or why it does not GO. */
        int go(int kind, int which, int place, int wish, Term out) {
            put = NONE;
            if (place < 0 || place >= subject.size) {
                return NO_PLACE;
            }
            Term from;
            Term into;
            if (kind == USE || kind == BACK) {
                Saying s = which == wish ? null : sayings.get(which);
                if (s == null || !s.isUsable()) {
                    return NO_SUCH;
                }
                from = kind == USE ? s.left : s.right;
                into = kind == USE ? s.right : s.left;
            } else {
                put = kind == PUT_IN ? words.numberOf(subject.at(place)) : which;
                from = kind == PUT_IN ? words.faceOf(put) : words.meaningOf(put);
                into = kind == PUT_IN ? words.meaningOf(put) : words.faceOf(put);
                if (from == null || into == null) {
                    return NO_SUCH;
                }
            }
            return fits(from, place) ? becomes(into, place, out) : NO_FIT;
        }

        /** Whether the TERM at a place FITS a shape; keeps what the NAMES are replaced by. */
        private boolean fits(Term shape, int place) {
            for (int name = 0; name < NAMES; name++) {
                starts[name] = NONE;
            }
            int p = place;
            for (int i = 0; i < shape.size && p < subject.size; i++) {
                int name = shape.at(i) - LETTER_X;
                int stop = p + 1;
                boolean fits;
                if (name < 0 || name >= NAMES) {
                    fits = shape.at(i) == subject.at(p);
                } else {
                    stop = endAt(p);
                    if (starts[name] < 0) {
                        starts[name] = p;
                        stops[name] = stop;
                    }
                    boolean asLong = stops[name] - starts[name] == stop - p;
                    fits = asLong && subject.samePart(p, stop, subject, starts[name]);
                }
                if (!fits) {
                    return false;
                }
                p = stop;
            }
            return p == endAt(place);
        }

        private int becomes(Term shape, int place, Term out) {
            int stop = endAt(place);
            int signs = subject.size - (stop - place);
            for (int i = 0; i < shape.size; i++) {
                int name = shape.at(i) - LETTER_X;
                if (name >= NAMES || name >= 0 && starts[name] < 0) {
                    return LOOSE_NAME;
                }
                signs += name < 0 ? 1 : stops[name] - starts[name];
            }
            if (signs > MOST_SIGNS) {
                return TOO_LONG;
            }
            out.size = 0;
            out.addPart(subject, 0, place);
            for (int i = 0; i < shape.size; i++) {
                int name = shape.at(i) - LETTER_X;
                if (name < 0) {
                    out.add(shape.at(i));
                } else if (name < NAMES) {
                    out.addPart(subject, starts[name], stops[name]);
                }
            }
            out.addPart(subject, stop, subject.size);
            return out.size;
        }
    }

    /** A row of STEPS of a PROOF as it goes, with each TERM that it came through. */
    private static final class Row {
        private final Stepper stepper;
        private final Sayings sayings;
        private final int[] kinds = new int[MOST_STEPS];
        private final int[] whichs = new int[MOST_STEPS];
        private final int[] places = new int[MOST_STEPS];
        private final int[] puts = new int[MOST_STEPS];
        private final Term[] terms = new Term[MOST_STEPS + 1];
        int wish;
        int size;

        Row(Stepper stepper, Sayings sayings) {
            this.stepper = stepper;
            this.sayings = sayings;
            for (int i = 0; i <= MOST_STEPS; i++) {
                terms[i] = new Term(MOST_SIGNS);
            }
            wish = NONE;
            size = 0;
        }

        void begin(int e) {
            Saying s = sayings.get(e);
            if (s != null) {
                wish = e;
                size = 0;
                terms[0].copy(s.left);
            }
        }

        void drop() {
            wish = NONE;
            size = 0;
        }

        boolean isDropped() {
            return wish < 0;
        }

        Term now() {
            return terms[size];
        }

        boolean arrived() {
            Saying s = sayings.get(wish);
            return s != null && now().same(s.right);
        }

        int go(int kind, int which, int place) {
            if (size >= MOST_STEPS) {
                return FULL;
            }
            stepper.look(terms[size]);
            int answer = stepper.go(kind, which, place, wish, terms[size + 1]);
            if (answer < 0) {
                return answer;
            }
            kinds[size] = kind;
            whichs[size] = kind == PUT_IN ? NONE : which;
            places[size] = place;
            puts[size] = stepper.put;
            size++;
            return answer;
        }

        int goBack() {
            if (size == 0) {
                return NONE;
            }
            size--;
            return size;
        }

        int kindAt(int i) {
            return i >= 0 && i < size ? kinds[i] : NONE;
        }

        int whichAt(int i) {
            return i >= 0 && i < size ? whichs[i] : NONE;
        }

        int placeAt(int i) {
            return i >= 0 && i < size ? places[i] : NONE;
        }

        /** The SAYINGS that its STEPS USE, BACK too. */
        int using() {
            int mask = 0;
            for (int i = 0; i < size; i++) {
                if (kinds[i] == USE || kinds[i] == BACK) {
                    mask |= 1 << whichs[i];
                }
            }
            return mask;
        }

        /** The WORDS that its STEPS put in or out. */
        int putting() {
            int mask = 0;
            for (int i = 0; i < size; i++) {
                if (puts[i] >= 0) {
                    mask |= 1 << puts[i];
                }
            }
            return mask;
        }
    }

    /** THE TAPE, and how its TOKENS tell lines or a MEANING. */
    private static final class Tape {
        private static final int MOST_BYTES = 240;
        private static final int END = 0, ROW = 1, NUMBER = 2, EQUALS = 3, STOP = 4, NO_TOKEN = 5;
        private static final int NOTHING_KNOWN = 1, OUT_OF_PLACE = 2, NOT_1_OR_2 = 3;
        private static final int WORD_AGAIN = 4, NO_TERM = 5, SAYINGS_FULL = 6;
        private static final byte[] WORD_LINE = {'w', 'o', 'r', 'd'};
        private static final byte[] TAKEN_LINE = {'t', 'a', 'k', 'e', 'n'};
        private static final byte[] WISH_LINE = {'w', 'i', 's', 'h'};

        private final Words words;
        private final Sayings sayings;
        private final byte[] bytes = new byte[MOST_BYTES];
        private final Term one = new Term(MOST_SIGNS);
        private final Term other = new Term(MOST_SIGNS);
        private int kind;
        private int first;
        private int next;
        int length;
        int latestFault;

        Tape(Words words, Sayings sayings) {
            this.words = words;
            this.sayings = sayings;
        }

        boolean append(long v) {
            if (length > MOST_BYTES - 8) {
                return false;
            }
            for (int i = 0; i < 8; i++) {
                bytes[length] = (byte) (v >> 56 - 8 * i);
                length++;
            }
            return true;
        }

        int tellLines(int hand, int day) {
            int wordsAhead = words.size;
            int sayingsAhead = sayings.size;
            int lines = 0;
            begin();
            boolean good = advance();
            // A line has more than one byte, so the bytes are more than enough turns.
            for (int i = 0; i < MOST_BYTES && good && kind != END; i++) {
                good = tellLine(hand, day) && advance();
                lines++;
            }
            length = 0;
            if (good) {
                return lines;
            }
            words.keep(wordsAhead);
            sayings.keep(sayingsAhead);
            return AT_PLACE - first;
        }

        int tellMeaning(int w) {
            Term meaning = words.meaningOf(w);
            begin();
            boolean good = wantTerm(one, words.needOf(w), w) && want(END);
            length = 0;
            if (!good || meaning == null) {
                return AT_PLACE - first;
            }
            meaning.copy(one);
            return 0;
        }

        private void begin() {
            next = 0;
            first = 0;
            latestFault = 0;
        }

        private boolean tellLine(int hand, int day) {
            if (isRow(WORD_LINE)) {
                return tellWord();
            }
            if (isRow(TAKEN_LINE)) {
                return tellSaying(TAKEN, hand, day);
            }
            if (isRow(WISH_LINE)) {
                return tellSaying(WISHED, hand, day);
            }
            return fails(OUT_OF_PLACE);
        }

        private boolean tellWord() {
            if (!want(ROW)) {
                return false;
            }
            int letter = byteAt(first) - 'a';
            if (next - first != 1 || letter >= MOST_WORDS) {
                return fails(OUT_OF_PLACE);
            }
            if (words.numberOf(letter) >= 0) {
                return fails(WORD_AGAIN);
            }
            if (!want(NUMBER)) {
                return false;
            }
            int need = byteAt(first) - '0';
            if (need < 1 || need > 2) {
                return fails(NOT_1_OR_2);
            }
            if (!wantTerm(one, need, words.size) || !want(STOP)) {
                return false;
            }
            words.add(letter, need, one);
            return true;
        }

        private boolean tellSaying(int state, int hand, int day) {
            if (sayings.size >= MOST_SAYINGS) {
                return fails(SAYINGS_FULL);
            }
            boolean good = wantTerm(one, NAMES, words.size) && want(EQUALS)
                && wantTerm(other, NAMES, words.size) && want(STOP);
            if (good) {
                sayings.add(one, other, state, hand, day);
            }
            return good;
        }

        private boolean wantTerm(Term into, int names, int ahead) {
            if (!want(ROW)) {
                return false;
            }
            into.size = 0;
            for (int i = first; i < next; i++) {
                if (!into.add(byteAt(i) - 'a')) {
                    return fails(NO_TERM);
                }
            }
            return words.isTerm(into, names, ahead) || fails(NO_TERM);
        }

        private boolean want(int wanted) {
            return advance() && (kind == wanted || fails(OUT_OF_PLACE));
        }

        /** Takes the next TOKEN, from its first byte to the one ahead of next. */
        private boolean advance() {
            first = next;
            while (first < length && byteAt(first) == ' ') {
                first++;
            }
            next = first;
            kind = kindAt(first);
            if (kind == NO_TOKEN) {
                return fails(NOTHING_KNOWN);
            }
            if (kind == END) {
                return true;
            }
            next++;
            if (kind == ROW || kind == NUMBER) {
                while (next < length && kindAt(next) == kind) {
                    next++;
                }
            }
            return kind != NUMBER || next - first == 1 || fails(NOTHING_KNOWN);
        }

        private boolean fails(int fault) {
            latestFault = fault;
            return false;
        }

        private int byteAt(int place) {
            return place >= 0 && place < length ? bytes[place] : 0;
        }

        private int kindAt(int place) {
            if (place < 0 || place >= length) {
                return END;
            }
            int b = bytes[place];
            if (b >= 'a' && b <= 'z') {
                return ROW;
            }
            if (b >= '0' && b <= '9') {
                return NUMBER;
            }
            if (b == '=') {
                return EQUALS;
            }
            return b == ';' ? STOP : NO_TOKEN;
        }

        private boolean isRow(byte[] letters) {
            if (kind != ROW || next - first != letters.length) {
                return false;
            }
            for (int i = 0; i < letters.length; i++) {
                if (byteAt(first + i) != letters[i]) {
                    return false;
                }
            }
            return true;
        }
    }

    /** SEEK: all TERMS within the bounds, the nearest first, each with the STEP by which it was met. */
    private static final class Seeker {
        private static final int MOST_TERMS = 250, HEADS = 256;

        private final Words words;
        private final Sayings sayings;
        private final Stepper stepper;
        private final Term[] terms = new Term[MOST_TERMS];
        private final int[] parents = new int[MOST_TERMS];
        private final int[] kinds = new int[MOST_TERMS];
        private final int[] whichs = new int[MOST_TERMS];
        private final int[] places = new int[MOST_TERMS];
        private final int[] depths = new int[MOST_TERMS];
        // TERMS with the same mark hang in one chain, so that few are compared.
        private final int[] heads = new int[HEADS];
        private final int[] chain = new int[MOST_TERMS];
        private final int[] path = new int[MOST_STEPS];
        private final Term spare = new Term(MOST_SIGNS);
        private int wish;
        private int mostSigns;
        private int found;
        private boolean spent;
        int met;

        Seeker(Words words, Sayings sayings, Stepper stepper) {
            this.words = words;
            this.sayings = sayings;
            this.stepper = stepper;
            for (int i = 0; i < MOST_TERMS; i++) {
                terms[i] = new Term(MOST_SIGNS);
            }
        }

        /** How many STEPS it takes to the right TERM; NONE or SPENT. */
        int run(int e, int n, int s) {
            Saying saying = sayings.get(e);
            if (saying == null) {
                return BAD;
            }
            for (int i = 0; i < HEADS; i++) {
                heads[i] = NONE;
            }
            met = 0;
            found = NONE;
            spent = false;
            wish = e;
            mostSigns = s;
            spare.copy(saying.left);
            meet(saying.right, NONE, NONE, NONE, NONE);
            for (int i = 0; i < met && i < MOST_TERMS && !isOver(); i++) {
                if (depths[i] < n) {
                    goOn(i, saying.right);
                }
            }
            if (spent) {
                return SPENT;
            }
            return found >= 0 && found < MOST_TERMS ? depths[found] : NONE;
        }

        private boolean isOver() {
            return spent || found >= 0;
        }

        private void goOn(int from, Term right) {
            stepper.look(terms[from]);
            for (int e = 0; e < sayings.size; e++) {
                tryPlaces(from, USE, e, right);
                tryPlaces(from, BACK, e, right);
            }
            tryPlaces(from, PUT_IN, NONE, right);
            for (int w = 0; w < words.size; w++) {
                tryPlaces(from, PUT_OUT, w, right);
            }
        }

        private void tryPlaces(int from, int kind, int which, Term right) {
            for (int p = 0; p < terms[from].size && !isOver(); p++) {
                int signs = stepper.go(kind, which, p, wish, spare);
                if (signs >= 0 && signs <= mostSigns) {
                    meet(right, from, kind, which, p);
                }
            }
        }

        /** Numbers the spare TERM, if it is met for the first time. */
        private void meet(Term right, int from, int kind, int which, int place) {
            int head = spare.mark() & HEADS - 1;
            int i = heads[head];
            for (int seen = 0; seen < met && i >= 0 && i < MOST_TERMS; seen++) {
                if (terms[i].same(spare)) {
                    return;
                }
                i = chain[i];
            }
            if (met >= MOST_TERMS) {
                spent = true;
                return;
            }
            terms[met].copy(spare);
            parents[met] = from;
            kinds[met] = kind;
            whichs[met] = which;
            places[met] = place;
            depths[met] = from < 0 ? 0 : depths[from] + 1;
            chain[met] = heads[head];
            heads[head] = met;
            if (spare.same(right)) {
                found = met;
            }
            met++;
        }

        /** Goes the way that was found on a row. */
        void layOut(int e, Row row) {
            int steps = 0;
            int i = found;
            while (i > 0 && i < MOST_TERMS && steps < MOST_STEPS) {
                path[steps] = i;
                steps++;
                i = parents[i];
            }
            row.begin(e);
            for (int k = steps - 1; k >= 0; k--) {
                int t = path[k];
                row.go(kinds[t], whichs[t], places[t]);
            }
        }
    }

    /** WORLDS of up to three things, entered one at a time. */
    private static final class Worlds {
        private static final int MOST_THINGS = 3;
        private static final int[] HOW_MANY = {0, 1, 32, 59049};

        private final Words words;
        private final Sayings sayings;
        private final int[] mTable = new int[MOST_THINGS * MOST_THINGS];
        private final int[][] wordTables = new int[MOST_WORDS][MOST_THINGS * MOST_THINGS];
        private final int[] values = new int[NAMES];
        private final int[] stack = new int[MOST_SIGNS];
        private int things;
        private int o;

        Worlds(Words words, Sayings sayings) {
            this.words = words;
            this.sayings = sayings;
        }

        int howMany(int n) {
            return n >= 1 && n <= MOST_THINGS ? HOW_MANY[n] : 0;
        }

        void enter(int n, int world) {
            if (n < 1 || n > MOST_THINGS) {
                return;
            }
            things = n;
            o = world % n;
            int figures = world / n;
            for (int i = 0; i < n * n; i++) {
                mTable[i] = figures % n;
                figures /= n;
            }
            // A MEANING has WORDS that came ahead alone, so their tables stand already.
            for (int w = 0; w < words.size; w++) {
                fillTable(wordTables[w], words.meaningOf(w), words.needOf(w));
            }
        }

        private void fillTable(int[] table, Term meaning, int need) {
            for (int x = 0; x < things; x++) {
                for (int y = 0; y < things; y++) {
                    values[0] = x;
                    values[1] = y;
                    int at = x * things + y;
                    if (at < table.length) {
                        table[at] = need < 2 && y > 0 ? table[x * things] : valueOf(meaning);
                    }
                }
            }
        }

        /** Values a TERM from its last sign to its first, so that what stands behind a sign is ready. */
        private int valueOf(Term term) {
            int ready = 0;
            for (int p = term.size - 1; p >= 0; p--) {
                int letter = term.at(p);
                int behind = words.behind(letter);
                int x = ready >= 1 && behind >= 1 ? stack[ready - 1] : 0;
                int y = ready >= 2 && behind == 2 ? stack[ready - 2] : 0;
                ready = Math.max(ready - behind, 0);
                if (ready < MOST_SIGNS) {
                    stack[ready] = valueAt(letter, x, y);
                    ready++;
                }
            }
            return stack[0];
        }

        private int valueAt(int letter, int x, int y) {
            int name = letter - LETTER_X;
            if (name >= 0 && name < NAMES) {
                return values[name];
            }
            int at = x * things + y;
            if (at < 0 || at >= MOST_THINGS * MOST_THINGS) {
                return 0;
            }
            if (letter == LETTER_M) {
                return mTable[at];
            }
            int w = words.numberOf(letter);
            return w >= 0 && w < MOST_WORDS ? wordTables[w][at] : o;
        }

        /** Whether a SAYING HOLDS in the WORLD that is entered. */
        boolean isTrue(Saying s) {
            int xs = has(s, 0) ? things : 1;
            int ys = has(s, 1) ? things : 1;
            int zs = has(s, 2) ? things : 1;
            for (int x = 0; x < xs; x++) {
                for (int y = 0; y < ys; y++) {
                    for (int z = 0; z < zs; z++) {
                        values[0] = x;
                        values[1] = y;
                        values[2] = z;
                        if (valueOf(s.left) != valueOf(s.right)) {
                            return false;
                        }
                    }
                }
            }
            return true;
        }

        private boolean has(Saying s, int name) {
            for (int i = 0; i < MOST_SIGNS; i++) {
                if (s.left.at(i) == LETTER_X + name || s.right.at(i) == LETTER_X + name) {
                    return true;
                }
            }
            return false;
        }

        private boolean isGrounded() {
            for (int e = 0; e < sayings.size; e++) {
                Saying s = sayings.get(e);
                if (s != null && s.state == TAKEN && !isTrue(s)) {
                    return false;
                }
            }
            return true;
        }

        int countGrounded(int n) {
            int found = 0;
            for (int world = 0; world < howMany(n); world++) {
                enter(n, world);
                if (isGrounded()) {
                    found++;
                }
            }
            return found;
        }

        /** The least WORLD in which all TAKEN ones HOLD and one, if it is told, does not. */
        int leastGrounded(int n, Saying denied) {
            for (int world = 0; world < howMany(n); world++) {
                enter(n, world);
                if (isGrounded() && (denied == null || !isTrue(denied))) {
                    return world;
                }
            }
            return NONE;
        }
    }

    /** Whether SAYINGS are LIKE one that it begins with. */
    private static final class Likeness {
        private static final int SIDES = 1, MATES = 2, WORDS_IN = 4;
        private static final int MOST_LONG = 200, MOST_PUT_IN = 400;
        private static final int[] RENAMINGS = {0, 1, 2, 0, 2, 1, 1, 0, 2, 1, 2, 0, 2, 0, 1, 2, 1, 0};

        private final Words words;
        private final Sayings sayings;
        private final Term left = new Term(MOST_LONG);
        private final Term right = new Term(MOST_LONG);
        private final Term otherLeft = new Term(MOST_LONG);
        private final Term otherRight = new Term(MOST_LONG);
        private final Term namedLeft = new Term(MOST_LONG);
        private final Term namedRight = new Term(MOST_LONG);
        private final Term spare = new Term(MOST_LONG);
        private final int[] ends = new int[MOST_LONG];
        private int how;

        Likeness(Words words, Sayings sayings) {
            this.words = words;
            this.sayings = sayings;
        }

        /** False: it is LIKE none, since its WORDS can not all be put in. */
        boolean begin(int e, int how) {
            this.how = how;
            return makeReady(e, left, right);
        }

        int allLike(int e, int how) {
            int found = 0;
            if (!begin(e, how)) {
                return found;
            }
            for (int f = 0; f < sayings.size; f++) {
                if (f != e && isLike(f)) {
                    found |= 1 << f;
                }
            }
            return found;
        }

        boolean isLike(int f) {
            if (!makeReady(f, otherLeft, otherRight) || left.size + right.size != otherLeft.size + otherRight.size) {
                return false;
            }
            sortMates(otherLeft);
            sortMates(otherRight);
            for (int i = 0; i + NAMES <= RENAMINGS.length; i += NAMES) {
                rename(left, i, namedLeft);
                rename(right, i, namedRight);
                sortMates(namedLeft);
                sortMates(namedRight);
                if (namedLeft.same(otherLeft) && namedRight.same(otherRight)) {
                    return true;
                }
                if ((how & SIDES) != 0 && namedLeft.same(otherRight) && namedRight.same(otherLeft)) {
                    return true;
                }
            }
            return false;
        }

        private boolean makeReady(int e, Term intoLeft, Term intoRight) {
            Saying s = sayings.get(e);
            if (s == null) {
                return false;
            }
            intoLeft.copy(s.left);
            intoRight.copy(s.right);
            return (how & WORDS_IN) == 0 || putAllIn(intoLeft) && putAllIn(intoRight);
        }

        private boolean putAllIn(Term term) {
            int place = firstWord(term, 0);
            for (int i = 0; i < MOST_PUT_IN && place >= 0; i++) {
                if (!putIn(term, place)) {
                    return false;
                }
                place = firstWord(term, place);
            }
            return place < 0;
        }

        /** The place of the first WORD's sign, with none ahead of a place where to begin; or NONE. */
        private int firstWord(Term term, int begin) {
            for (int p = begin; p < term.size; p++) {
                if (words.numberOf(term.at(p)) >= 0) {
                    return p;
                }
            }
            return NONE;
        }

        /** False: the TERM would be too long. */
        private boolean putIn(Term term, int place) {
            int w = words.numberOf(term.at(place));
            Term meaning = words.meaningOf(w);
            if (meaning == null) {
                return false;
            }
            int middle = words.endOf(term, place + 1);
            int stop = words.needOf(w) == 2 ? words.endOf(term, middle) : middle;
            spare.size = 0;
            boolean fits = spare.addPart(term, 0, place);
            for (int i = 0; i < meaning.size && fits; i++) {
                int letter = meaning.at(i);
                if (letter == LETTER_X) {
                    fits = spare.addPart(term, place + 1, middle);
                } else if (letter == LETTER_X + 1) {
                    fits = spare.addPart(term, middle, stop);
                } else {
                    fits = spare.add(letter);
                }
            }
            fits = fits && spare.addPart(term, stop, term.size);
            if (fits) {
                term.copy(spare);
            }
            return fits;
        }

        private void rename(Term from, int renaming, Term into) {
            into.size = 0;
            for (int i = 0; i < from.size; i++) {
                int letter = from.at(i);
                int at = renaming + letter - LETTER_X;
                boolean isName = letter >= LETTER_X && at >= 0 && at < RENAMINGS.length;
                into.add(isName ? LETTER_X + RENAMINGS[at] : letter);
            }
        }

        /**
         * Brings the mates of each m into one order, if any order will do. It goes from the last sign to the first:
         * what stands behind an m is in order by then, and its ends are known.
         */
        private void sortMates(Term term) {
            if ((how & MATES) == 0) {
                return;
            }
            for (int p = Math.min(term.size, MOST_LONG) - 1; p >= 0; p--) {
                int behind = words.behind(term.at(p));
                int middle = behind >= 1 ? endAt(term, p + 1) : p + 1;
                int stop = behind == 2 ? endAt(term, middle) : middle;
                ends[p] = stop;
                if (term.at(p) == LETTER_M && comesLater(term, p + 1, middle, stop)) {
                    changeMates(term, p + 1, middle, stop);
                }
            }
        }

        private int endAt(Term term, int place) {
            return place >= 0 && place < term.size && place < MOST_LONG ? ends[place] : term.size;
        }

        /** Whether the mate from first on comes behind the one from middle on, by letters. */
        private boolean comesLater(Term term, int first, int middle, int stop) {
            for (int i = 0; first + i < middle && middle + i < stop; i++) {
                int one = term.at(first + i);
                int other = term.at(middle + i);
                if (one != other) {
                    return one > other;
                }
            }
            return false;
        }

        private void changeMates(Term term, int first, int middle, int stop) {
            spare.size = 0;
            spare.addPart(term, middle, stop);
            spare.addPart(term, first, middle);
            for (int i = 0; i < spare.size; i++) {
                term.set(first + i, spare.at(i));
            }
        }
    }

    /** SHEETS, and the FAULTS that the machine finds in them. */
    private static final class Sheets {
        static final int MOST_CELLS = 90, NULL = 1, INDEX = 2, CAST = 3, SIZE = 4;
        private static final int HOW_MANY = 4, BYTES = 0, SHORTS = 1, INTS = 2;

        private final int[][] cells = new int[HOW_MANY][MOST_CELLS];
        private final int[] lanes = new int[HOW_MANY];
        private final int[] sizes = new int[HOW_MANY];

        Sheets() {
            for (int k = 0; k < HOW_MANY; k++) {
                sizes[k] = NONE;
            }
        }

        boolean isSheet(int k) {
            return k >= 0 && k < HOW_MANY;
        }

        boolean isLane(int lane) {
            return lane >= BYTES && lane <= INTS;
        }

        int cellsOf(int k) {
            return isSheet(k) ? sizes[k] : NONE;
        }

        int renew(int k, int lane, int n) {
            if (!isSheet(k) || n < 0 || n > MOST_CELLS) {
                return BAD;
            }
            lanes[k] = lane;
            sizes[k] = n;
            for (int i = 0; i < n; i++) {
                cells[k][i] = 0;
            }
            return 1;
        }

        int write(int k, int i, int v) {
            if (!isSheet(k)) {
                return BAD;
            }
            if (sizes[k] < 0) {
                return AT_PLACE - NULL;
            }
            if (i < 0 || i >= sizes[k]) {
                return AT_PLACE - INDEX;
            }
            cells[k][i] = lowest(lanes[k], v);
            return 1;
        }

        private int lowest(int lane, int v) {
            if (lane == BYTES) {
                return (byte) v;
            }
            return lane == SHORTS ? (short) v : v;
        }

        int cell(int k, int i) {
            return isSheet(k) && i >= 0 && i < sizes[k] ? cells[k][i] : NONE;
        }

        /** The FAULT of taking so many CELLS from one on as of a lane; 0. */
        int faultOf(int k, int lane, int from, int many) {
            if (cellsOf(k) < 0) {
                return NULL;
            }
            if (lanes[k] != lane) {
                return CAST;
            }
            boolean inside = many == 0 || from >= 0 && from <= sizes[k] - many;
            return inside ? 0 : INDEX;
        }
    }
}
