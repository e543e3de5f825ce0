import java.util.function.ToIntFunction;

/** The edges that all calls share: what is BAD, the first answer that fits, and that what is refused changes nothing. */
public final class EdgesAnswersTest {
    private static final int MIN = Due.MIN, MAX = Due.MAX;

    /**
     * 0 and 1 are TAKEN, 2 is BROKEN, 3 and 5 are WISHED (3 is in hand, at its right TERM), 4 is SHOWN. SHEET 0 has
     * BYTES, 1 SHORTS, 2 no INTS, 3 is nothing. The latest FAULT is 2; THE TAPE has a line on it.
     */
    private static ShownLibrary made() {
        ShownLibrary x = new ShownLibrary();
        x.hand(3);
        x.day(3);
        Due.tell(x, "word a 1 mxx;word b 2 mxay;taken mxx=x;taken mxy=myx;wish ax=x;wish mxo=mox;wish ao=moo;wish mxy=myx;");
        x.day(4);
        x.take(2, 2, 9);
        x.take(4, 1, 9);
        x.day(5);
        Due.change(x, 0, "mxo");
        x.prove(3);
        x.step(0, 1, 0);
        Due.sheet(x, 0, 0, 0, 1, 0, 0, 1, 0);
        Due.sheet(x, 1, 1, 7, 1, 0);
        x.sheet(2, 2, 0);
        Due.tell(x, "say");
        Due.type(x, "wish x=y;");
        return x;
    }

    private static void madeAsTold() {
        ShownLibrary x = made();
        int[] states = {0, 0, 3, 1, 2, 1};
        for (int e = 0; e < states.length; e++) {
            Due.is("of(" + e + ", 0)", x.of(e, 0), states[e]);
        }
        Due.is("in hand", x.proof(0), 3);
        Due.is("at the right term", x.proof(3), 1);
        Due.is("fault()", x.fault(), 2);
        Due.is("on the tape", x.count(9), 9);
        Due.is("all sayings", x.count(0), 6);
    }

    private static void isBadFor(String call, ToIntFunction<Integer> called, int... numbers) {
        for (int number : numbers) {
            Due.is(call + " with " + number, called.applyAsInt(number), Due.BAD);
        }
    }

    private static void noSuchSaying(ShownLibrary x, int... none) {
        isBadFor("of(e, 0)", e -> x.of(e, 0), none);
        isBadFor("sign(e, 0, 0)", e -> x.sign(e, 0, 0), none);
        isBadFor("as(e, 5)", e -> x.as(e, 5), none);
        isBadFor("prove(e)", e -> x.prove(e), none);
        isBadFor("stepOf(e, 0, 0)", e -> x.stepOf(e, 0, 0), none);
        isBadFor("leans(e, 0)", e -> x.leans(e, 0), none);
        isBadFor("seek(e, 1, 9, 0)", e -> x.seek(e, 1, 9, 0), none);
        isBadFor("take(e, 1, 9)", e -> x.take(e, 1, 9), none);
        isBadFor("holds(e, 2, 0)", e -> x.holds(e, 2, 0), none);
        isBadFor("denied(e, 2)", e -> x.denied(e, 2), none);
        isBadFor("like(e, 0, 0)", e -> x.like(e, 0, 0), none);
        isBadFor("like(0, e, 0)", e -> x.like(0, e, 0), none);
        isBadFor("like(e, e, 0)", e -> x.like(e, e, 0), none);
        isBadFor("find(e, 0, 0)", e -> x.find(e, 0, 0), none);
        isBadFor("teach(e, 0, 0)", e -> x.teach(e, 0, 0), none);
        isBadFor("read(e, 0, 0, 0, 1)", e -> x.read(e, 0, 0, 0, 1), none);
    }

    private static void noSuchSayingIsBad() {
        Due.says("there is no such SAYING, WORD, HAND, SHEET)");
        noSuchSaying(made(), MIN, -32, -1, 6, 7, 23, 24, 31, 32, 33, MAX);
        noSuchSaying(new ShownLibrary(), -1, 0, 1, 23);
        ShownLibrary full = new ShownLibrary();
        for (int i = 0; i < 24; i++) {
            Due.tell(full, "wish x=x;");
        }
        noSuchSaying(full, -1, 24, 25, 32);
        Due.is("the last one is such a one", full.of(23, 0), 1);
        Due.is("and so for prove", full.prove(23), 1);
    }

    private static void noSuchWordIsBad() {
        Due.says("there is no such SAYING, WORD, HAND, SHEET)");
        ShownLibrary x = made();
        isBadFor("word(w, 0)", w -> x.word(w, 0), MIN, -1, 2, 3, 4, 32, MAX);
        isBadFor("word(w, 3)", w -> x.word(w, 3), MIN, -1, 2, 3, 4, 32, MAX);
        isBadFor("word(w, 10)", w -> x.word(w, 10), MIN, -1, 2, 3, 4, 32, MAX);
        isBadFor("change(w)", w -> x.change(w), MIN, -1, 2, 3, 4, 32, MAX);
        ShownLibrary none = new ShownLibrary();
        isBadFor("word(w, 0) of none", w -> none.word(w, 0), -1, 0, 1);
        isBadFor("change(w) of none", w -> none.change(w), -1, 0, 1);
        ShownLibrary four = Due.with("word d 1 x;word c 1 x;word b 1 x;word a 1 x;");
        Due.is("the last of four", four.word(3, 0), 0);
        isBadFor("word(w, 0) of four", w -> four.word(w, 0), -1, 4, 5);
        isBadFor("change(w) of four", w -> four.change(w), -1, 4, 5);
    }

    private static void noSuchHandIsBad() {
        Due.says("there is no such SAYING, WORD, HAND, SHEET)");
        ShownLibrary x = made();
        isBadFor("hand(h)", h -> x.hand(h), MIN, -1, 10, 11, MAX);
        Due.is("THE HAND stays", x.count(7), 3);
    }

    private static void noSuchSheetIsBad() {
        Due.says("there is no such SAYING, WORD, HAND, SHEET)");
        ShownLibrary x = made();
        isBadFor("sheet(k, 0, 1)", k -> x.sheet(k, 0, 1), MIN, -1, 4, 5, MAX);
        isBadFor("lay(k, 0, 1)", k -> x.lay(k, 0, 1), MIN, -1, 4, 5, MAX);
        isBadFor("read(3, k, 0, 0, 1)", k -> x.read(3, k, 0, 0, 1), MIN, -1, 4, 5, MAX);
        for (int k = 0; k < 4; k++) {
            Due.is("sheet(" + k + ", 2, 1)", x.sheet(k, 2, 1), 1);
        }
    }

    private static void aNumberNotAsToldIsBad() {
        Due.says("BAD -1 (a number is not as told");
        ShownLibrary x = made();
        isBadFor("end(n)", n -> x.end(n), MIN, -1, 10, 240, 241, MAX);
        isBadFor("day(d)", d -> x.day(d), MIN, -1, 0, 4, 1000, 1001, MAX);
        isBadFor("of(3, what)", what -> x.of(3, what), MIN, -1, 9, 10, MAX);
        isBadFor("sign(3, side, 0)", side -> x.sign(3, side, 0), MIN, -1, 2, MAX);
        isBadFor("sign(3, 0, i)", i -> x.sign(3, 0, i), MIN, -1);
        isBadFor("word(0, what)", what -> x.word(0, what), MIN, -1, 4, 9, 13, 14, 30, MAX);
        isBadFor("as(3, day)", day -> x.as(3, day), MIN, -1, 1000, MAX);
        isBadFor("step(kind, 1, 0)", kind -> x.step(kind, 1, 0), MIN, -1, 4, MAX);
        isBadFor("proof(what)", what -> x.proof(what), MIN, -1, 4, 9, 13, 14, MAX);
        isBadFor("stepOf(4, i, 0)", i -> x.stepOf(4, i, 0), MIN, -1, 1, 2, 20, MAX);
        isBadFor("stepOf(4, 0, what)", what -> x.stepOf(4, 0, what), MIN, -1, 3, MAX);
        isBadFor("leans(4, what)", what -> x.leans(4, what), MIN, -1, 3, MAX);
        isBadFor("seek(3, n, 9, 0)", n -> x.seek(3, n, 9, 0), MIN, -1, 9, MAX);
        isBadFor("seek(3, 1, s, 0)", s -> x.seek(3, 1, s, 0), MIN, -1, 0, 21, MAX);
        isBadFor("seek(3, 1, 9, what)", what -> x.seek(3, 1, 9, what), MIN, -1, 2, MAX);
        isBadFor("take(3, n, 9)", n -> x.take(3, n, 9), MIN, -1, 9, MAX);
        isBadFor("take(3, 1, s)", s -> x.take(3, 1, s), MIN, -1, 0, 21, MAX);
        isBadFor("holds(3, n, 0)", n -> x.holds(3, n, 0), MIN, -1, 0, 4, MAX);
        isBadFor("holds(3, 1, world)", world -> x.holds(3, 1, world), MIN, -1, 1, 2, MAX);
        isBadFor("holds(3, 2, world)", world -> x.holds(3, 2, world), MIN, -1, 32, 33, MAX);
        isBadFor("holds(3, 3, world)", world -> x.holds(3, 3, world), MIN, -1, 59049, 59050, MAX);
        isBadFor("worlds(n, 0)", n -> x.worlds(n, 0), MIN, -1, 0, 3, 4, MAX);
        isBadFor("worlds(1, what)", what -> x.worlds(1, what), MIN, -1, 2, MAX);
        isBadFor("denied(3, n)", n -> x.denied(3, n), MIN, -1, 0, 3, 4, MAX);
        isBadFor("like(3, 5, how)", how -> x.like(3, 5, how), MIN, -1, 8, 9, MAX);
        isBadFor("find(3, how, 0)", how -> x.find(3, how, 0), MIN, -1, 8, 9, MAX);
        isBadFor("find(3, 0, what)", what -> x.find(3, 0, what), MIN, -1, 2, MAX);
        isBadFor("teach(4, known, 0)", known -> x.teach(4, known, 0), MIN, -1, 64, 65, 1 << 24, MAX);
        isBadFor("teach(4, 0, what)", what -> x.teach(4, 0, what), MIN, MIN + 10, -1, 1, 9, 34, 35, MAX);
        isBadFor("sheet(0, lane, 1)", lane -> x.sheet(0, lane, 1), MIN, -1, 3, MAX);
        isBadFor("sheet(0, 0, n)", n -> x.sheet(0, 0, n), 91, 92, MAX);
        isBadFor("read(3, 0, lane, 0, 1)", lane -> x.read(3, 0, lane, 0, 1), MIN, -1, 3, MAX);
        isBadFor("read(3, 0, 0, 0, n)", n -> x.read(3, 0, 0, 0, n), MIN, -1, 21, MAX);
        isBadFor("count(what)", what -> x.count(what), MIN, -1, 11, 12, MAX);
    }

    private static void theFirstThatFits() {
        Due.says("STATE -2 (as told), FULL -3, NONE -4 (there is none), SPENT -6, the first that fits");
        ShownLibrary x = made();
        Due.is("as: BAD ahead of NONE", x.as(3, -1), Due.BAD);
        Due.is("sign: BAD ahead of NONE", x.sign(3, 2, 9), Due.BAD);
        Due.is("seek: BAD ahead of STATE", x.seek(0, 9, 9, 0), Due.BAD);
        Due.is("seek: BAD of s ahead of STATE", x.seek(4, 1, 0, 0), Due.BAD);
        Due.is("seek: BAD of what ahead of STATE", x.seek(4, 1, 9, 2), Due.BAD);
        Due.is("seek: BAD of what ahead of NONE", x.seek(5, 0, 1, 2), Due.BAD);
        Due.is("take: BAD ahead of STATE", x.take(4, -1, 9), Due.BAD);
        Due.is("find: BAD ahead of NONE", x.find(4, 8, 1), Due.BAD);
        Due.is("teach: BAD ahead of NONE", x.teach(4, 64, 30), Due.BAD);
        Due.is("stepOf: BAD ahead of NONE", x.stepOf(5, 0, 3), Due.BAD);
        Due.is("stepOf: BAD of i ahead of NONE", x.stepOf(5, -1, 0), Due.BAD);
        Due.is("sheet: BAD of k ahead of SIZE", x.sheet(4, 0, -1), Due.BAD);
        Due.is("sheet: BAD of lane ahead of SIZE", x.sheet(0, 3, -1), Due.BAD);
        Due.is("lay: NULL ahead of INDEX", x.lay(3, -1, 0), -11);
        Due.is("read: BAD of n ahead of STATE", x.read(0, 0, 0, 0, 21), Due.BAD);
        Due.is("read: BAD of lane ahead of STATE", x.read(4, 0, 3, 0, 1), Due.BAD);
        Due.is("read: BAD of k ahead of STATE", x.read(4, 4, 0, 0, 1), Due.BAD);
        Due.is("read: STATE ahead of NULL", x.read(0, 3, 0, 0, 1), Due.STATE);
        Due.is("read: STATE ahead of CAST", x.read(4, 0, 1, 0, 1), Due.STATE);
        Due.is("read: NULL ahead of INDEX", x.read(5, 3, 0, 99, 1), -11);
        Due.is("read: CAST ahead of INDEX", x.read(5, 0, 1, 99, 1), -13);
        Due.is("read: INDEX ahead of a STEP that does not GO", x.read(5, 1, 1, 0, 2), -12);
        Due.is("read: the first STEP that does not GO", x.read(5, 1, 1, 0, 1), -100);
        ShownLibrary y = Due.with("wish o=x;");
        Due.is("step: BAD ahead of STATE", y.step(4, 0, 9), Due.BAD);
        Due.is("step: STATE ahead of -20", y.step(0, 0, 9), Due.STATE);
        Due.is("proof: BAD ahead of STATE", y.proof(4), Due.BAD);
        Due.is("proof: BAD of 10 and i ahead of STATE", y.proof(10), Due.BAD);
        Due.is("change: BAD ahead of FAULT 2", y.change(0), Due.BAD);
    }

    private static void isRefused(String call, ToIntFunction<ShownLibrary> called, int due) {
        Probe.unchanged(call, made(), called, due, made());
    }

    private static void whatIsRefusedChangesNothing() {
        Due.says("what is refused changes nothing");
        isRefused("end(10)", x -> x.end(10), Due.BAD);
        isRefused("end(-1)", x -> x.end(-1), Due.BAD);
        isRefused("hand(10)", x -> x.hand(10), Due.BAD);
        isRefused("day(4)", x -> x.day(4), Due.BAD);
        isRefused("day(1000)", x -> x.day(1000), Due.BAD);
        isRefused("prove(6)", x -> x.prove(6), Due.BAD);
        isRefused("prove(0)", x -> x.prove(0), Due.STATE);
        isRefused("prove(4)", x -> x.prove(4), Due.STATE);
        isRefused("step(4, 1, 0)", x -> x.step(4, 1, 0), Due.BAD);
        isRefused("step(0, 1, 3)", x -> x.step(0, 1, 3), -20);
        isRefused("step(0, 3, 0)", x -> x.step(0, 3, 0), -21);
        isRefused("step(0, 2, 0)", x -> x.step(0, 2, 0), -21);
        isRefused("step(2, 0, 0)", x -> x.step(2, 0, 0), -21);
        isRefused("step(3, 2, 0)", x -> x.step(3, 2, 0), -21);
        isRefused("step(0, 0, 0)", x -> x.step(0, 0, 0), -22);
        isRefused("change(2)", x -> x.change(2), Due.BAD);
        isRefused("seek(0, 1, 9, 0)", x -> x.seek(0, 1, 9, 0), Due.STATE);
        isRefused("seek(5, 0, 9, 0)", x -> x.seek(5, 0, 9, 0), Due.NONE);
        isRefused("seek(2, 8, 20, 0)", x -> x.seek(2, 8, 20, 0), Due.SPENT);
        isRefused("take(3, 9, 9)", x -> x.take(3, 9, 9), Due.BAD);
        isRefused("take(4, 1, 9)", x -> x.take(4, 1, 9), Due.STATE);
        isRefused("take(3, 0, 9)", x -> x.take(3, 0, 9), Due.NONE);
        isRefused("take(2, 8, 20)", x -> x.take(2, 8, 20), Due.SPENT);
        isRefused("sheet(0, 0, 91)", x -> x.sheet(0, 0, 91), Due.BAD);
        isRefused("sheet(0, 3, 6)", x -> x.sheet(0, 3, 6), Due.BAD);
        isRefused("sheet(0, 1, -1)", x -> x.sheet(0, 1, -1), -14);
        isRefused("sheet(3, 1, -1)", x -> x.sheet(3, 1, -1), -14);
        isRefused("lay(4, 0, 1)", x -> x.lay(4, 0, 1), Due.BAD);
        isRefused("lay(3, 0, 1)", x -> x.lay(3, 0, 1), -11);
        isRefused("lay(0, 6, 1)", x -> x.lay(0, 6, 1), -12);
        isRefused("lay(0, -1, 1)", x -> x.lay(0, -1, 1), -12);
        isRefused("read(3, 0, 0, 0, 21)", x -> x.read(3, 0, 0, 0, 21), Due.BAD);
        isRefused("read(0, 0, 0, 0, 1)", x -> x.read(0, 0, 0, 0, 1), Due.STATE);
        isRefused("read(3, 3, 0, 0, 1)", x -> x.read(3, 3, 0, 0, 1), -11);
        isRefused("read(3, 0, 0, 4, 1)", x -> x.read(3, 0, 0, 4, 1), -12);
        isRefused("read(3, 0, 1, 0, 1)", x -> x.read(3, 0, 1, 0, 1), -13);
        isRefused("read(3, 1, 1, 0, 1)", x -> x.read(3, 1, 1, 0, 1), -100);
        isRefused("read(2, 0, 0, 0, 2)", x -> x.read(2, 0, 0, 0, 2), -100);
        isRefused("read(3, 0, 0, 0, 2)", x -> x.read(3, 0, 0, 0, 2), 0);
    }

    private static ShownLibrary dropped() {
        ShownLibrary x = made();
        x.prove(5);
        return x;
    }

    private static void noStepIsRefusedToo() {
        Due.says("what is refused changes nothing");
        Probe.unchanged("undo() of none", dropped(), x -> x.undo(), Due.NONE, dropped());
        Probe.unchanged("show() ahead of the right TERM", dropped(), x -> x.show(), Due.STATE, dropped());
    }

    private static ShownLibrary fullTape() {
        ShownLibrary x = made();
        x.end(0);
        Due.type(x, "wish x=y;" + " ".repeat(224));
        return x;
    }

    private static void aFullTapeStays() {
        Due.says("FULL: more than 240.");
        Probe.unchanged("feed at 233", fullTape(), x -> x.feed(-1L), Due.FULL, fullTape());
    }

    /** The FAULT was 2 ahead of it, and is so behind it: THE TAPE alone is not what it was. */
    private static void butTheTapeAsTold() {
        Due.says("(but THE TAPE, as told)");
        for (String text : new String[] {"word c 1 x;wish x=o;say", "wish x=o;taken x=", "word c 1 x;word d 2 y"}) {
            ShownLibrary refuses = made();
            refuses.end(0);
            Due.type(refuses, text);
            ShownLibrary other = made();
            other.end(0);
            int place = text.endsWith("say") ? text.length() - 3 : text.length();
            Probe.unchanged("text() of " + text, refuses, x -> x.text(), -10 - place, other);
        }
        for (String text : new String[] {"", ";", "x x"}) {
            ShownLibrary refuses = made();
            refuses.end(0);
            Due.type(refuses, text);
            ShownLibrary other = made();
            other.end(0);
            int place = text.equals("x x") ? 2 : 0;
            Probe.unchanged("change(0) to " + text, refuses, x -> x.change(0), -10 - place, other);
        }
    }

    public static void main(String[] args) {
        madeAsTold();
        noSuchSayingIsBad();
        noSuchWordIsBad();
        noSuchHandIsBad();
        noSuchSheetIsBad();
        aNumberNotAsToldIsBad();
        theFirstThatFits();
        whatIsRefusedChangesNothing();
        noStepIsRefusedToo();
        aFullTapeStays();
        butTheTapeAsTold();
        Due.finish();
    }
}
