import java.util.ArrayList;
import java.util.HashMap;
import java.util.HashSet;
import java.util.List;
import java.util.Map;
import java.util.Set;
import java.util.TreeSet;

/**
 * The document once more, written as simply as the Java library lets it be: terms are texts and trees, sets are sets,
 * all is worked out anew at each call. TwinTest lets it answer the same calls as ShownLibrary.
 */
final class TwinLibrary {
    static final int BAD = -1, STATE = -2, FULL = -3, NONE = -4, SPENT = -6;
    /** Thrown when a comparison would take too long here; the answer is then not compared. */
    static final class TooDear extends RuntimeException {
        private static final long serialVersionUID = 1L;
    }

    record Step(int kind, int which, int place) { }

    static final class Word {
        char letter;
        int need;
        String meaning;
    }

    static final class Said {
        String left, right;
        int state, hand, day, brokenAt, shownAs;
        List<Step> proof;
        Map<Integer, Integer> states = new HashMap<>();
    }

    private static final class Fault extends RuntimeException {
        private static final long serialVersionUID = 1L;
        final int kind, place;

        Fault(int kind, int place) {
            super(null, null, false, false);
            this.kind = kind;
            this.place = place;
        }
    }

    List<Word> words = new ArrayList<>();
    List<Said> said = new ArrayList<>();
    private String tape = "";
    private int fault, hand, day, told, shows;
    private int wish = -1;
    private List<Step> steps = new ArrayList<>();
    private final int[][] cells = new int[4][];
    private final int[] lanes = new int[4];

    // ---- terms

    Word wordOf(char c) {
        for (Word w : words) {
            if (w.letter == c) {
                return w;
            }
        }
        return null;
    }

    int need(char c) {
        if (c == 'm') {
            return 2;
        }
        Word w = wordOf(c);
        return w == null ? 0 : w.need;
    }

    /** The term that begins at a place, cut out. */
    String cut(String t, int place) {
        int p = place + 1;
        for (int i = 0; i < need(t.charAt(place)); i++) {
            p += cut(t, p).length();
        }
        return t.substring(place, p);
    }

    List<String> parts(String t) {
        List<String> parts = new ArrayList<>();
        int p = 1;
        for (int i = 0; i < need(t.charAt(0)); i++) {
            parts.add(cut(t, p));
            p += cut(t, p).length();
        }
        return parts;
    }

    static boolean isName(char c) {
        return c >= 'x' && c <= 'z';
    }

    boolean fit(String t, String shape, Map<Character, String> with) {
        char c = shape.charAt(0);
        if (isName(c)) {
            String old = with.putIfAbsent(c, t);
            return old == null || old.equals(t);
        }
        if (c != t.charAt(0)) {
            return false;
        }
        List<String> a = parts(t), b = parts(shape);
        for (int i = 0; i < a.size(); i++) {
            if (!fit(a.get(i), b.get(i), with)) {
                return false;
            }
        }
        return true;
    }

    /** What a step makes of a term, or its refusal as a number. */
    Object go(String t, int kind, int which, int place, int wishOf) {
        if (place < 0 || place >= t.length()) {
            return -20;
        }
        String here = cut(t, place);
        String from, into;
        if (kind <= 1) {
            if (which < 0 || which >= said.size() || which == wishOf) {
                return -21;
            }
            Said s = said.get(which);
            if (s.state != 0 && s.state != 2) {
                return -21;
            }
            from = kind == 0 ? s.left : s.right;
            into = kind == 0 ? s.right : s.left;
        } else if (kind == 2) {
            Word w = wordOf(here.charAt(0));
            if (w == null) {
                return -21;
            }
            from = w.letter + (w.need == 2 ? "xy" : "x");
            into = w.meaning;
        } else {
            if (which < 0 || which >= words.size()) {
                return -21;
            }
            Word w = words.get(which);
            from = w.meaning;
            into = w.letter + (w.need == 2 ? "xy" : "x");
        }
        Map<Character, String> with = new HashMap<>();
        if (!fit(here, from, with)) {
            return -22;
        }
        StringBuilder b = new StringBuilder();
        for (char c : into.toCharArray()) {
            if (isName(c) && !with.containsKey(c)) {
                return -23;
            }
            b.append(isName(c) ? with.get(c) : String.valueOf(c));
        }
        String whole = t.substring(0, place) + b + t.substring(place + here.length());
        return whole.length() > 20 ? (Object) (-24) : whole;
    }

    /** Follows steps: the term behind them, or the number of the step that does not go. */
    Object follow(int e, List<Step> row) {
        String t = said.get(e).left;
        for (int i = 0; i < row.size(); i++) {
            Step s = row.get(i);
            Object o = s.kind < 0 || s.kind > 3 ? (Object) 0 : go(t, s.kind, s.which, s.place, e);
            if (!(o instanceof String)) {
                return i;
            }
            t = (String) o;
        }
        return t;
    }

    Set<Integer> wordsPut(int e) {
        Set<Integer> put = new TreeSet<>();
        String t = said.get(e).left;
        for (Step s : said.get(e).proof) {
            if (s.kind == 2) {
                put.add(words.indexOf(wordOf(t.charAt(s.place))));
            }
            if (s.kind == 3) {
                put.add(s.which);
            }
            t = (String) go(t, s.kind, s.which, s.place, e);
        }
        return put;
    }

    private boolean is(int e) {
        return e >= 0 && e < said.size();
    }

    private boolean open(int e) {
        return said.get(e).state == 1 || said.get(e).state == 3;
    }

    // ---- words, sayings

    int feed(long v) {
        if (tape.length() + 8 > 240) {
            return FULL;
        }
        for (int i = 56; i >= 0; i -= 8) {
            tape += (char) (v >>> i & 255);
        }
        return tape.length();
    }

    int end(int n) {
        if (n < 0 || n > tape.length()) {
            return BAD;
        }
        int had = tape.length();
        tape = tape.substring(0, n);
        return had;
    }

    private int at;
    private int tokenAt;

    /** The next token, "" at the end. */
    private String token() {
        while (at < tape.length() && tape.charAt(at) == ' ') {
            at++;
        }
        tokenAt = at;
        String rest = tape.substring(at);
        String t = rest.replaceFirst("(?s)^([a-z]+|[0-9]+|=|;)?.*$", "$1");
        if (t.isEmpty() && !rest.isEmpty() || t.matches("[0-9][0-9]+")) {
            throw new Fault(1, tokenAt);
        }
        at += t.length();
        return t;
    }

    private String want(String form) {
        String t = token();
        if (!t.matches(form)) {
            throw new Fault(2, tokenAt);
        }
        return t;
    }

    private String wantTerm(String signs) {
        String t = want("[a-z]+");
        boolean good = t.length() <= 20 && t.chars().allMatch(c -> signs.indexOf(c) >= 0);
        if (good) {
            int open = 1;
            for (int i = 0; i < t.length(); i++) {
                good &= open > 0;
                open += need(t.charAt(i)) - 1;
            }
            good &= open == 0;
        }
        if (!good) {
            throw new Fault(5, tokenAt);
        }
        return t;
    }

    private String letters(int many) {
        StringBuilder b = new StringBuilder();
        for (int i = 0; i < many; i++) {
            b.append(words.get(i).letter);
        }
        return b.toString();
    }

    int text() {
        List<Word> oldWords = new ArrayList<>(words);
        List<Said> oldSaid = new ArrayList<>(said);
        at = 0;
        fault = 0;
        int lines = 0;
        try {
            for (String t = token(); !t.isEmpty(); t = token()) {
                line(t);
                lines++;
            }
            return lines;
        } catch (Fault f) {
            words = oldWords;
            said = oldSaid;
            fault = f.kind;
            return -10 - f.place;
        } finally {
            tape = "";
        }
    }

    private void line(String t) {
        if (t.equals("word")) {
            Word w = new Word();
            w.letter = want("[a-d]").charAt(0);
            if (wordOf(w.letter) != null) {
                throw new Fault(4, tokenAt);
            }
            w.need = Integer.parseInt(want("[0-9]"));
            if (w.need != 1 && w.need != 2) {
                throw new Fault(3, tokenAt);
            }
            w.meaning = wantTerm((w.need == 2 ? "xyom" : "xom") + letters(words.size()));
            want(";");
            words.add(w);
            return;
        }
        if (!t.equals("taken") && !t.equals("wish")) {
            throw new Fault(2, tokenAt);
        }
        if (said.size() == 24) {
            throw new Fault(6, tokenAt);
        }
        Said s = new Said();
        s.left = wantTerm("xyzom" + letters(words.size()));
        want("=");
        s.right = wantTerm("xyzom" + letters(words.size()));
        want(";");
        s.hand = hand;
        s.day = day;
        said.add(s);
        become(s, t.equals("taken") ? 0 : 1);
    }

    private void become(Said s, int state) {
        s.state = state;
        s.states.put(day, state);
    }

    int fault() {
        return fault;
    }

    int hand(int h) {
        if (h < 0 || h > 9) {
            return BAD;
        }
        int was = hand;
        hand = h;
        return was;
    }

    int day(int d) {
        if (d < day || d > 999) {
            return BAD;
        }
        int was = day;
        day = d;
        return was;
    }

    private Set<Integer> under(int e) {
        Set<Integer> all = new TreeSet<>();
        if (said.get(e).state == 2) {
            for (Step s : said.get(e).proof) {
                if (s.kind <= 1 && all.add(s.which)) {
                    all.addAll(under(s.which));
                }
            }
        }
        return all;
    }

    private Set<Integer> over(int e) {
        Set<Integer> all = new TreeSet<>();
        for (int f = 0; f < said.size(); f++) {
            if (under(f).contains(e)) {
                all.add(f);
            }
        }
        return all;
    }

    private static int bits(Set<Integer> set) {
        return set.stream().mapToInt(i -> 1 << i).sum();
    }

    int of(int e, int what) {
        if (!is(e) || what < 0 || what > 8) {
            return BAD;
        }
        Said s = said.get(e);
        return new int[] {s.state, s.hand, s.day, s.left.length(), s.right.length(),
            s.proof == null ? NONE : s.proof.size(), s.state == 3 ? s.brokenAt : NONE,
            under(e).size(), over(e).size()}[what];
    }

    int sign(int e, int side, int i) {
        if (!is(e) || side < 0 || side > 1 || i < 0) {
            return BAD;
        }
        String t = side == 0 ? said.get(e).left : said.get(e).right;
        return i < t.length() ? t.charAt(i) - 'a' : NONE;
    }

    int word(int w, int what) {
        if (w < 0 || w >= words.size()) {
            return BAD;
        }
        Word v = words.get(w);
        if (what >= 10) {
            return what - 10 < v.meaning.length() ? v.meaning.charAt(what - 10) - 'a' : BAD;
        }
        if (what < 0 || what > 3) {
            return BAD;
        }
        int puts = 0;
        for (int e = 0; e < said.size(); e++) {
            if (said.get(e).state == 2 && wordsPut(e).contains(w)) {
                puts++;
            }
        }
        return new int[] {v.letter - 'a', v.need, v.meaning.length(), puts}[what];
    }

    int as(int e, int d) {
        if (!is(e) || d < 0 || d > 999) {
            return BAD;
        }
        for (int i = d; i >= 0; i--) {
            if (said.get(e).states.containsKey(i)) {
                return said.get(e).states.get(i);
            }
        }
        return NONE;
    }

    // ---- proofs

    int prove(int e) {
        if (!is(e)) {
            return BAD;
        }
        if (!open(e)) {
            return STATE;
        }
        wish = e;
        steps = new ArrayList<>();
        return said.get(e).left.length();
    }

    private String now() {
        return (String) follow(wish, steps);
    }

    int step(int kind, int which, int place) {
        if (kind < 0 || kind > 3) {
            return BAD;
        }
        if (wish < 0) {
            return STATE;
        }
        if (steps.size() == 20) {
            return FULL;
        }
        Object o = go(now(), kind, which, place, wish);
        if (o instanceof String s) {
            steps.add(new Step(kind, kind == 2 ? NONE : which, place));
            return s.length();
        }
        return (Integer) o;
    }

    int undo() {
        if (wish < 0 || steps.isEmpty()) {
            return NONE;
        }
        steps.remove(steps.size() - 1);
        return steps.size();
    }

    int proof(int what) {
        if (what < 0 || what > 3 && what < 10 || what >= 10 && wish < 0) {
            return BAD;
        }
        if (wish < 0) {
            return STATE;
        }
        String t = now();
        if (what >= 10) {
            return what - 10 < t.length() ? t.charAt(what - 10) - 'a' : BAD;
        }
        return new int[] {wish, steps.size(), t.length(), t.equals(said.get(wish).right) ? 1 : 0}[what];
    }

    private int tell(int e, List<Step> row) {
        if (told + row.size() > 200) {
            return FULL;
        }
        told += row.size();
        Said s = said.get(e);
        s.proof = row;
        s.shownAs = ++shows;
        become(s, 2);
        if (wish == e) {
            wish = -1;
        }
        return row.size();
    }

    int show() {
        if (wish < 0 || !now().equals(said.get(wish).right)) {
            return STATE;
        }
        return tell(wish, steps);
    }

    int stepOf(int e, int i, int what) {
        if (!is(e) || what < 0 || what > 2 || i < 0) {
            return BAD;
        }
        List<Step> row = said.get(e).proof;
        if (row == null) {
            return NONE;
        }
        if (i >= row.size()) {
            return BAD;
        }
        Step s = row.get(i);
        return what == 0 ? s.kind : what == 2 ? s.place : s.kind == 2 ? NONE : s.which;
    }

    int leans(int e, int what) {
        if (!is(e) || what < 0 || what > 2) {
            return BAD;
        }
        Set<Integer> set = what == 2 ? over(e) : under(e);
        if (what == 1) {
            set.removeIf(f -> said.get(f).state != 0);
        }
        return bits(set);
    }

    // ---- changes, seeking

    int change(int w) {
        if (w < 0 || w >= words.size()) {
            return BAD;
        }
        String meaning;
        try {
            at = 0;
            fault = 0;
            meaning = wantTerm((words.get(w).need == 2 ? "xyom" : "xom") + letters(w));
            want("");
        } catch (Fault f) {
            fault = f.kind;
            return -10 - f.place;
        } finally {
            tape = "";
        }
        Map<Integer, Set<Integer>> put = new HashMap<>(), under = new HashMap<>();
        List<Integer> order = new ArrayList<>();
        for (int e = 0; e < said.size(); e++) {
            if (said.get(e).state == 2) {
                put.put(e, wordsPut(e));
                under.put(e, under(e));
                order.add(e);
            }
        }
        order.sort((a, b) -> said.get(a).shownAs - said.get(b).shownAs);
        words.get(w).meaning = meaning;
        wish = -1;
        Set<Integer> broken = new HashSet<>();
        for (int e : order) {
            boolean leansOnBroken = under.get(e).stream().anyMatch(broken::contains);
            if (!put.get(e).contains(w) && !leansOnBroken) {
                continue;
            }
            Said s = said.get(e);
            Object o = follow(e, s.proof);
            if (!o.equals(s.right)) {
                s.brokenAt = o instanceof Integer i ? i : s.proof.size();
                become(s, 3);
                broken.add(e);
            }
        }
        return broken.size();
    }

    private List<Step> way;
    private int met;

    private int search(int e, int n, int s) {
        if (!is(e) || n < 0 || n > 8 || s < 1 || s > 20) {
            return BAD;
        }
        if (!open(e)) {
            return STATE;
        }
        List<String> terms = new ArrayList<>(List.of(said.get(e).left));
        List<List<Step>> ways = new ArrayList<>(List.of(new ArrayList<>()));
        Set<String> seen = new HashSet<>(terms);
        String goal = said.get(e).right;
        met = 1;
        way = ways.get(0);
        if (seen.contains(goal)) {
            return 0;
        }
        for (int i = 0; i < terms.size(); i++) {
            if (ways.get(i).size() == n) {
                continue;
            }
            for (Step step : stepsFrom(terms.get(i))) {
                Object o = go(terms.get(i), step.kind, step.which, step.place, e);
                if (!(o instanceof String t) || t.length() > s || seen.contains(t)) {
                    continue;
                }
                if (terms.size() == 250) {
                    return SPENT;
                }
                List<Step> longer = new ArrayList<>(ways.get(i));
                longer.add(step);
                terms.add(t);
                seen.add(t);
                ways.add(longer);
                met = terms.size();
                if (t.equals(goal)) {
                    way = longer;
                    return longer.size();
                }
            }
        }
        return NONE;
    }

    List<Step> stepsFrom(String t) {
        List<Step> all = new ArrayList<>();
        for (int f = 0; f < said.size(); f++) {
            for (int kind = 0; kind <= 1; kind++) {
                for (int p = 0; p < t.length(); p++) {
                    all.add(new Step(kind, f, p));
                }
            }
        }
        for (int p = 0; p < t.length(); p++) {
            all.add(new Step(2, NONE, p));
        }
        for (int w = 0; w < words.size(); w++) {
            for (int p = 0; p < t.length(); p++) {
                all.add(new Step(3, w, p));
            }
        }
        return all;
    }

    /** The way that a seek finds, or none. */
    List<Step> wayTo(int e) {
        int answer = search(e, 8, 20);
        return answer >= 0 ? way : new ArrayList<>();
    }

    /** The term of the proof in hand, or null. */
    String inHand() {
        return wish < 0 ? null : now();
    }

    int seek(int e, int n, int s, int what) {
        if (what < 0 || what > 1) {
            return BAD;
        }
        int answer = search(e, n, s);
        return what == 1 && (answer >= 0 || answer == NONE) ? met : answer;
    }

    int take(int e, int n, int s) {
        int answer = search(e, n, s);
        return answer < 0 ? answer : tell(e, way);
    }

    // ---- worlds

    private int value(String t, int n, int world, Map<Character, Integer> names) {
        char c = t.charAt(0);
        if (isName(c)) {
            return names.get(c);
        }
        if (c == 'o') {
            return world % n;
        }
        List<String> p = parts(t);
        int a = value(p.get(0), n, world, names);
        int b = p.size() == 2 ? value(p.get(1), n, world, names) : 0;
        if (c == 'm') {
            int figures = world / n;
            for (int i = 0; i < n * a + b; i++) {
                figures /= n;
            }
            return figures % n;
        }
        return value(wordOf(c).meaning, n, world, Map.of('x', a, 'y', b));
    }

    private boolean isTrue(int e, int n, int world) {
        for (int x = 0; x < n; x++) {
            for (int y = 0; y < n; y++) {
                for (int z = 0; z < n; z++) {
                    Map<Character, Integer> names = Map.of('x', x, 'y', y, 'z', z);
                    if (value(said.get(e).left, n, world, names) != value(said.get(e).right, n, world, names)) {
                        return false;
                    }
                }
            }
        }
        return true;
    }

    int holds(int e, int n, int world) {
        if (!is(e) || n < 1 || n > 3 || world < 0 || world >= Math.pow(n, n * n + 1)) {
            return BAD;
        }
        return isTrue(e, n, world) ? 1 : 0;
    }

    private List<Integer> grounded(int n) {
        List<Integer> found = new ArrayList<>();
        for (int world = 0; world < (n == 1 ? 1 : 32); world++) {
            boolean all = true;
            for (int e = 0; e < said.size() && all; e++) {
                all = said.get(e).state != 0 || isTrue(e, n, world);
            }
            if (all) {
                found.add(world);
            }
        }
        return found;
    }

    int worlds(int n, int what) {
        if (n < 1 || n > 2 || what < 0 || what > 1) {
            return BAD;
        }
        List<Integer> found = grounded(n);
        return what == 0 ? found.size() : found.isEmpty() ? NONE : found.get(0);
    }

    int denied(int e, int n) {
        if (!is(e) || n < 1 || n > 2) {
            return BAD;
        }
        for (int world : grounded(n)) {
            if (!isTrue(e, n, world)) {
                return world;
            }
        }
        return NONE;
    }

    // ---- finding, teaching

    private String allIn(String t) {
        String now = t;
        for (int i = 0; ; i++) {
            int p = 0;
            while (p < now.length() && wordOf(now.charAt(p)) == null) {
                p++;
            }
            if (p == now.length()) {
                return now;
            }
            if (i == 400) {
                return null;
            }
            String here = cut(now, p);
            List<String> with = parts(here);
            StringBuilder b = new StringBuilder();
            for (char c : wordOf(here.charAt(0)).meaning.toCharArray()) {
                b.append(isName(c) ? with.get(c - 'x') : String.valueOf(c));
            }
            now = now.substring(0, p) + b + now.substring(p + here.length());
            if (now.length() > 200) {
                return null;
            }
        }
    }

    private int budget;

    /** Whether pairs of terms can all be made one, with names for names as far as they are bound. */
    private boolean match(List<String[]> pairs, Map<Character, Character> names, boolean mates) {
        if (--budget < 0) {
            throw new TooDear();
        }
        if (pairs.isEmpty()) {
            return true;
        }
        List<String[]> rest = new ArrayList<>(pairs.subList(1, pairs.size()));
        String a = pairs.get(0)[0], b = pairs.get(0)[1];
        char c = a.charAt(0), d = b.charAt(0);
        if (a.length() != b.length() || isName(c) != isName(d) || !isName(c) && c != d) {
            return false;
        }
        if (isName(c)) {
            Map<Character, Character> more = new HashMap<>(names);
            if (more.containsKey(c) ? more.get(c) != d : more.containsValue(d)) {
                return false;
            }
            more.put(c, d);
            return match(rest, more, mates);
        }
        List<String> p = parts(a), q = parts(b);
        List<String[]> straight = new ArrayList<>();
        for (int i = 0; i < p.size(); i++) {
            straight.add(new String[] {p.get(i), q.get(i)});
        }
        straight.addAll(rest);
        if (match(straight, names, mates)) {
            return true;
        }
        if (c != 'm' || !mates) {
            return false;
        }
        List<String[]> crossed = new ArrayList<>();
        crossed.add(new String[] {p.get(0), q.get(1)});
        crossed.add(new String[] {p.get(1), q.get(0)});
        crossed.addAll(rest);
        return match(crossed, names, mates);
    }

    int like(int e, int f, int how) {
        if (!is(e) || !is(f) || how < 0 || how > 7) {
            return BAD;
        }
        budget = 30000;
        return alike(e, f, how) ? 1 : 0;
    }

    private boolean alike(int e, int f, int how) {
        String[] t = {said.get(e).left, said.get(e).right, said.get(f).left, said.get(f).right};
        for (int i = 0; i < 4 && (how & 4) != 0; i++) {
            t[i] = allIn(t[i]);
            if (t[i] == null) {
                return false;
            }
        }
        boolean mates = (how & 2) != 0;
        if (match(List.of(new String[] {t[0], t[2]}, new String[] {t[1], t[3]}), Map.of(), mates)) {
            return true;
        }
        return (how & 1) != 0
            && match(List.of(new String[] {t[0], t[3]}, new String[] {t[1], t[2]}), Map.of(), mates);
    }

    int find(int e, int how, int what) {
        if (!is(e) || how < 0 || how > 7 || what < 0 || what > 1) {
            return BAD;
        }
        budget = 200000;
        List<Integer> found = new ArrayList<>();
        for (int f = 0; f < said.size(); f++) {
            if (f != e && alike(e, f, how)) {
                found.add(f);
            }
        }
        return what == 0 ? found.size() : found.isEmpty() ? NONE : found.get(0);
    }

    int teach(int e, int known, int what) {
        if (!is(e) || known < 0 || known >> said.size() != 0 || what != 0 && (what < 10 || what > 33)) {
            return BAD;
        }
        Set<Integer> left = new TreeSet<>(under(e));
        left.add(e);
        left.removeIf(f -> (known >> f & 1) != 0);
        List<Integer> order = new ArrayList<>();
        while (!left.isEmpty()) {
            for (int f : left) {
                Set<Integer> first = under(f);
                first.retainAll(left);
                if (first.isEmpty()) {
                    order.add(f);
                    left.remove(f);
                    break;
                }
            }
        }
        return what == 0 ? order.size() : what - 10 < order.size() ? order.get(what - 10) : NONE;
    }

    // ---- sheets

    int sheet(int k, int lane, int n) {
        if (k < 0 || k > 3 || lane < 0 || lane > 2 || n > 90) {
            return BAD;
        }
        if (n < 0) {
            return -14;
        }
        cells[k] = new int[n];
        lanes[k] = lane;
        return 1;
    }

    int lay(int k, int i, int v) {
        if (k < 0 || k > 3) {
            return BAD;
        }
        if (cells[k] == null) {
            return -11;
        }
        if (i < 0 || i >= cells[k].length) {
            return -12;
        }
        cells[k][i] = lanes[k] == 0 ? (byte) v : lanes[k] == 1 ? (short) v : v;
        return 1;
    }

    int read(int e, int k, int lane, int f, int n) {
        if (!is(e) || k < 0 || k > 3 || lane < 0 || lane > 2 || n < 0 || n > 20) {
            return BAD;
        }
        if (!open(e)) {
            return STATE;
        }
        if (cells[k] == null) {
            return -11;
        }
        if (lanes[k] != lane) {
            return -13;
        }
        List<Step> row = new ArrayList<>();
        for (long i = 0; i < 3 * n; i++) {
            if (f + i < 0 || f + i >= cells[k].length) {
                return -12;
            }
        }
        for (int i = 0; i < n; i++) {
            row.add(new Step(cells[k][f + 3 * i], cells[k][f + 3 * i + 1], cells[k][f + 3 * i + 2]));
        }
        Object o = follow(e, row);
        if (o instanceof Integer i) {
            return -100 - i;
        }
        if (!o.equals(said.get(e).right)) {
            return 0;
        }
        return tell(e, row) == FULL ? FULL : 1;
    }

    int count(int what) {
        int[] states = new int[4];
        for (Said s : said) {
            states[s.state]++;
        }
        if (what < 0 || what > 10) {
            return BAD;
        }
        return new int[] {said.size(), states[0], states[1], states[2], states[3], words.size(), told, hand, day,
            tape.length(), cells[0] == null ? NONE : cells[0].length}[what];
    }
}
