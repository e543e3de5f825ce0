import java.util.ArrayList;
import java.util.List;
import java.util.Random;

/** Long runs of drawn calls (the same ones each time), answered by ShownLibrary and by its twin. */
public final class TwinTest {
    private static final int RUNS = Integer.getInteger("runs", 150), CALLS = 512;
    private static int wrong = 0;
    private static final int[] ANSWERS = new int[64];

    private final Random random;
    private final ShownLibrary lib = new ShownLibrary();
    private final TwinLibrary twin = new TwinLibrary();
    private final List<String> log = new ArrayList<>();
    private final int manner;
    private int calls = 0;
    private boolean ended = false;

    private TwinTest(long seed) {
        random = new Random(seed);
        manner = random.nextInt(4);
    }

    private void same(String call, int got, int want) {
        calls++;
        log.add(call + " -> " + want);
        if (want < 0 && want > -64) {
            ANSWERS[-want]++;
        }
        if (got != want && !ended) {
            ended = true;
            wrong++;
            System.out.println("a run of " + calls + " calls ends in " + call + ": answered " + got + ", the twin says " + want);
            for (String line : log) {
                System.out.println("    " + line);
            }
        }
    }

    private int pick(int bound) {
        return random.nextInt(bound);
    }

    private boolean rarely() {
        return pick(25) == 0;
    }

    private int saying() {
        return rarely() ? pick(30) - 3 : pick(Math.max(1, twin.said.size()));
    }

    /** A saying that is wished or broken, if a few draws find one. */
    private int wish() {
        for (int i = 0; i < 20; i++) {
            int e = saying();
            if (e >= 0 && e < twin.said.size() && (twin.said.get(e).state & 1) == 1) {
                return e;
            }
        }
        return saying();
    }

    private int number(int low, int high) {
        if (rarely()) {
            return new int[] {-1, Integer.MIN_VALUE, Integer.MAX_VALUE, high + 1, low - 1, 1000}[pick(6)];
        }
        return low + pick(high - low + 1);
    }

    // ---- texts

    private String term(int size, String leaves, int ahead) {
        if (size <= 1) {
            return String.valueOf(leaves.charAt(pick(leaves.length())));
        }
        if (ahead > 0 && pick(2) == 0) {
            TwinLibrary.Word w = twin.words.get(pick(ahead));
            return w.need == 1 ? w.letter + term(size - 1, leaves, ahead)
                : w.letter + term(size / 2, leaves, ahead) + term(size - 1 - size / 2, leaves, ahead);
        }
        int first = 1 + pick(Math.max(1, size - 2));
        return "m" + term(first, leaves, ahead) + term(Math.max(1, size - 1 - first), leaves, ahead);
    }

    private String meaning(int need, int ahead) {
        if (pick(8) == 0) {
            return pick(2) == 0 ? "x" : "o";
        }
        return term(1 + pick(manner == 3 ? 14 : 6), need == 2 ? "xyxyxyo" : "xxxo", ahead);
    }

    private int size() {
        return 1 + pick(pick(4) == 0 ? 20 : 6);
    }

    private String walked(String from) {
        String t = from;
        for (int i = pick(4); i >= 0; i--) {
            List<TwinLibrary.Step> steps = twin.stepsFrom(t);
            for (int k = 0; k < 60 && !steps.isEmpty(); k++) {
                TwinLibrary.Step s = steps.get(pick(steps.size()));
                if (twin.go(t, s.kind(), s.which(), s.place(), -1) instanceof String next && !next.equals(t)) {
                    t = next;
                    break;
                }
            }
        }
        return t;
    }

    /** A saying that is like another one in some way, or nearly so. */
    private String varied(TwinLibrary.Said s) {
        String[] sides = {s.left, s.right};
        int how = pick(16);
        String names = new String[] {"xyz", "xzy", "yxz", "yzx", "zxy", "zyx", "xxz"}[pick(7)];
        for (int i = 0; i < 2; i++) {
            String t = (how & 1) != 0 ? mated(sides[i]) : sides[i];
            for (int p = 0; p < t.length() && (how & 2) != 0; p++) {
                if (twin.go(t, 2, 0, p, -1) instanceof String put && pick(2) == 0) {
                    t = put;
                }
            }
            StringBuilder b = new StringBuilder();
            for (char c : t.toCharArray()) {
                b.append(TwinLibrary.isName(c) ? names.charAt(c - 'x') : c);
            }
            sides[i] = b.toString();
        }
        return (how & 4) != 0 ? sides[1] + "=" + sides[0] : sides[0] + "=" + sides[1];
    }

    /** A term with the mates of some of its m changed. */
    private String mated(String t) {
        List<String> parts = new ArrayList<>(twin.parts(t));
        parts.replaceAll(this::mated);
        if (t.charAt(0) == 'm' && pick(2) == 0) {
            parts.add(parts.remove(0));
        }
        return t.charAt(0) + String.join("", parts);
    }

    private String line() {
        int many = twin.words.size();
        String names = pick(3) == 0 ? "xyzo" : "xyo";
        switch (pick(9)) {
            case 0: case 1: {
                int need = 1 + pick(2);
                return "word " + (char) ('a' + (rarely() ? pick(5) : many % 4)) + " " + need + " " + meaning(need, many) + ";";
            }
            case 2: case 3: {
                String[] good = {"mxy=myx", "mxo=x", "mmxyz=mxmyz", "mxx=x", "o=mxx", "x=mox", "mxy=x", "o=mxo"};
                return "taken " + good[pick(good.length)] + ";";
            }
            case 4:
                return "taken " + term(size(), names, many) + "=" + term(1 + pick(5), names, many) + ";";
            case 5: case 6:
                return twin.said.isEmpty() ? "wish mxy=myx;" : "wish " + varied(twin.said.get(pick(twin.said.size()))) + ";";
            default: {
                String left = term(size(), names, many);
                return "wish " + left + "=" + walked(left) + ";";
            }
        }
    }

    private String spoilt(String t) {
        StringBuilder b = new StringBuilder(t);
        String signs = "abcdmoxyz12=; ,0w\u0000\u00e9";
        int at = pick(b.length() + 1);
        switch (pick(4)) {
            case 0: b.insert(at, signs.charAt(pick(signs.length()))); break;
            case 1: b.setLength(at); break;
            case 2: if (at < b.length()) { b.deleteCharAt(at); } break;
            default: if (at < b.length()) { b.setCharAt(at, signs.charAt(pick(signs.length()))); } break;
        }
        return b.toString();
    }

    private void type(String t) {
        for (int i = 0; i < t.length(); i += 8) {
            long v = 0;
            for (int k = 0; k < 8; k++) {
                v = v << 8 | (i + k < t.length() ? t.charAt(i + k) & 255 : 32);
            }
            same("feed(" + v + ")", lib.feed(v), twin.feed(v));
        }
        int n = rarely() ? number(0, 240) : t.length();
        same("end(" + n + ")", lib.end(n), twin.end(n));
    }

    private void doText() {
        StringBuilder b = new StringBuilder();
        for (int i = pick(3); i >= 0; i--) {
            b.append(line()).append(pick(3) == 0 ? "  " : "");
        }
        String t = pick(6) == 0 ? spoilt(b.toString()) : b.toString();
        type(t.length() > 240 ? t.substring(0, 240) : t);
        same("text() of " + t, lib.text(), twin.text());
        same("fault()", lib.fault(), twin.fault());
    }

    private void doChange() {
        int w = rarely() || twin.words.isEmpty() ? pick(6) - 1 : pick(twin.words.size());
        String t = "x";
        if (w >= 0 && w < twin.words.size()) {
            t = pick(4) == 0 ? twin.words.get(w).meaning : meaning(twin.words.get(w).need, w);
        }
        type(pick(8) == 0 ? spoilt(t) : t);
        same("change(" + w + ") to " + t, lib.change(w), twin.change(w));
        same("fault()", lib.fault(), twin.fault());
    }

    // ---- proofs

    private void doProof() {
        int e = wish();
        same("prove(" + e + ")", lib.prove(e), twin.prove(e));
        boolean isWish = e >= 0 && e < twin.said.size() && twin.inHand() != null && twin.proof(0) == e;
        if (isWish && pick(3) > 0) {
            for (int i = pick(manner == 2 ? 10 : 3); i > 0; i--) {
                goForthAndBack();
            }
            for (TwinLibrary.Step s : twin.wayTo(e)) {
                doStep(s);
            }
        }
        for (int i = pick(4); i > 0 && twin.proof(3) != 1; i--) {
            doAnyStep();
        }
        same("show()", lib.show(), twin.show());
    }

    private List<TwinLibrary.Step> goodSteps(String t) {
        List<TwinLibrary.Step> good = twin.stepsFrom(t);
        good.removeIf(s -> !(twin.go(t, s.kind(), s.which(), s.place(), twin.proof(0)) instanceof String));
        return good;
    }

    private void goForthAndBack() {
        String t = twin.inHand();
        List<TwinLibrary.Step> good = goodSteps(t);
        if (good.isEmpty()) {
            return;
        }
        TwinLibrary.Step forth = good.get(pick(good.size()));
        doStep(forth);
        for (TwinLibrary.Step back : goodSteps(twin.inHand())) {
            if (t.equals(twin.go(twin.inHand(), back.kind(), back.which(), back.place(), twin.proof(0)))) {
                doStep(back);
                return;
            }
        }
        same("undo()", lib.undo(), twin.undo());
    }

    private void doStep(TwinLibrary.Step s) {
        same("step(" + s.kind() + ", " + s.which() + ", " + s.place() + ")",
            lib.step(s.kind(), s.which(), s.place()), twin.step(s.kind(), s.which(), s.place()));
    }

    private void doAnyStep() {
        List<TwinLibrary.Step> good = twin.inHand() == null ? List.of() : goodSteps(twin.inHand());
        int kind = number(0, 3);
        boolean any = good.isEmpty() || pick(2) == 0;
        doStep(any ? new TwinLibrary.Step(kind, kind == 3 ? number(0, 3) : saying(), number(0, 5)) : good.get(pick(good.size())));
        if (pick(8) == 0) {
            same("undo()", lib.undo(), twin.undo());
        }
        int what = pick(3) == 0 ? number(10, 30) : number(0, 4);
        same("proof(" + what + ")", lib.proof(what), twin.proof(what));
    }

    private void doSeek() {
        int e = wish(), n = number(0, 8), s = number(1, 20), what = number(0, 1);
        if (pick(2) == 0) {
            same("seek(" + e + ", " + n + ", " + s + ", " + what + ")", lib.seek(e, n, s, what), twin.seek(e, n, s, what));
        } else {
            same("take(" + e + ", " + n + ", " + s + ")", lib.take(e, n, s), twin.take(e, n, s));
        }
    }

    /** Lays steps that mostly go on a sheet and reads them. */
    private void doRead() {
        int e = wish(), k = number(0, 3), lane = number(0, 2), f = number(0, 3), n = pick(3);
        same("sheet(" + k + ", " + lane + ", " + (f + 3 * n) + ")", lib.sheet(k, lane, f + 3 * n), twin.sheet(k, lane, f + 3 * n));
        if (e >= 0 && e < twin.said.size()) {
            String t = twin.said.get(e).left;
            for (int i = 0; i < n; i++) {
                List<TwinLibrary.Step> good = new ArrayList<>();
                for (TwinLibrary.Step s : twin.stepsFrom(t)) {
                    if (twin.go(t, s.kind(), s.which(), s.place(), e) instanceof String next) {
                        if (next.equals(twin.said.get(e).right)) {
                            good.clear();
                        }
                        good.add(s);
                        if (next.equals(twin.said.get(e).right)) {
                            break;
                        }
                    }
                }
                if (good.isEmpty()) {
                    break;
                }
                TwinLibrary.Step s = rarely() ? new TwinLibrary.Step(pick(6) - 1, pick(9), pick(9)) : good.get(pick(good.size()));
                doLay(k, f + 3 * i, s.kind());
                doLay(k, f + 3 * i + 1, s.which());
                doLay(k, f + 3 * i + 2, s.place() + (rarely() ? 256 : 0));
                t = twin.go(t, s.kind(), s.which(), s.place(), e) instanceof String next ? next : t;
            }
        }
        int asLane = pick(12) == 0 ? number(0, 2) : lane;
        int from = rarely() ? number(0, 90) : f;
        same("read(" + e + ", " + k + ", " + asLane + ", " + from + ", " + n + ")",
            lib.read(e, k, asLane, from, n), twin.read(e, k, asLane, from, n));
    }

    private void doLay(int k, int i, int v) {
        same("lay(" + k + ", " + i + ", " + v + ")", lib.lay(k, i, v), twin.lay(k, i, v));
    }

    // ---- questions

    private void ask() {
        int e = saying(), f = saying();
        switch (pick(16)) {
            case 0: { int w = number(0, 8); same("of(" + e + ", " + w + ")", lib.of(e, w), twin.of(e, w)); break; }
            case 1: { int s = number(0, 1), i = number(0, 19); same("sign(" + e + ", " + s + ", " + i + ")", lib.sign(e, s, i), twin.sign(e, s, i)); break; }
            case 2: { int w = number(0, 3), x = pick(2) == 0 ? number(0, 3) : number(4, 30); same("word(" + w + ", " + x + ")", lib.word(w, x), twin.word(w, x)); break; }
            case 3: case 4: { int d = number(0, 40); same("as(" + e + ", " + d + ")", lib.as(e, d), twin.as(e, d)); break; }
            case 5: { int i = number(0, 5), w = number(0, 2); same("stepOf(" + e + ", " + i + ", " + w + ")", lib.stepOf(e, i, w), twin.stepOf(e, i, w)); break; }
            case 6: case 7: { int w = number(0, 2); same("leans(" + e + ", " + w + ")", lib.leans(e, w), twin.leans(e, w)); break; }
            case 8: { int n = number(1, 3), w = number(0, n == 1 ? 0 : n == 2 ? 31 : 59048); same("holds(" + e + ", " + n + ", " + w + ")", lib.holds(e, n, w), twin.holds(e, n, w)); break; }
            case 9: { int n = number(1, 2), w = number(0, 1); same("worlds(" + n + ", " + w + ")", lib.worlds(n, w), twin.worlds(n, w)); break; }
            case 10: { int n = number(1, 2); same("denied(" + e + ", " + n + ")", lib.denied(e, n), twin.denied(e, n)); break; }
            case 11: case 12: askLike(e, f, number(0, 7), number(0, 1)); askLike(f, saying(), 2 + pick(6), pick(2)); break;
            case 13: { int known = pick(2) == 0 ? 0 : number(0, (1 << twin.said.size()) - 1), w = pick(3) == 0 ? number(0, 0) : number(8, 34); same("teach(" + e + ", " + known + ", " + w + ")", lib.teach(e, known, w), twin.teach(e, known, w)); break; }
            case 14: { int h = number(0, 9); same("hand(" + h + ")", lib.hand(h), twin.hand(h)); break; }
            default: { int w = number(0, 10); same("count(" + w + ")", lib.count(w), twin.count(w)); break; }
        }
    }

    private void askLike(int e, int f, int how, int what) {
        try {
            if (pick(2) == 0) {
                int want = twin.like(e, f, how);
                same("like(" + e + ", " + f + ", " + how + ")", lib.like(e, f, how), want);
            } else {
                int want = twin.find(e, how, what);
                same("find(" + e + ", " + how + ", " + what + ")", lib.find(e, how, what), want);
            }
        } catch (TwinLibrary.TooDear dear) {
            lib.like(e, f, how);
        }
    }

    private void run() {
        String begin = new String[] {"word a 1 mxx;word b 2 maxy;taken mxy=myx;", "taken mxy=myx;taken mmxyz=mxmyz;", "",
            "word a 1 mox;word b 1 aax;word c 2 bmxay;taken mox=x;wish mxay=mxy;"}[pick(4)];
        type(begin);
        same("text() of " + begin, lib.text(), twin.text());
        doText();
        while (calls < CALLS && !ended) {
            switch (pick(14)) {
                case 0: doText(); break;
                case 1: if (manner != 1) { doChange(); } break;
                case 2: doProof(); break;
                case 3: case 4: doSeek(); break;
                case 5: doRead(); break;
                case 6: if (manner < 2) { int d = twin.count(8) + pick(3); same("day(" + d + ")", lib.day(d), twin.day(d)); } break;
                default: ask(); break;
            }
        }
    }

    public static void main(String[] args) {
        for (int seed = 1; seed <= RUNS && wrong < 3; seed++) {
            new TwinTest(seed).run();
        }
        StringBuilder met = new StringBuilder();
        for (int i = 0; i < 64; i++) {
            met.append(ANSWERS[i] == 0 ? "" : " " + -i + ":" + ANSWERS[i]);
        }
        System.out.println(wrong == 0 ? "all drawn runs are answered as by the twin; refusals met:" + met : wrong + " runs differ");
        if (wrong != 0) {
            System.exit(1);
        }
    }
}
