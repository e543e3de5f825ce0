/** The edges of a word's meaning changed, sentence by sentence. */
public final class EdgesChangeTest {
    private static final int USE = 0, BACK = 1, PUT_IN = 2, PUT_OUT = 3;

    /** Shows a SAYING by STEPS of kind, of which, PLACE. */
    private static void shows(ShownLibrary x, int e, int... steps) {
        x.prove(e);
        for (int i = 0; i + 2 < steps.length; i += 3) {
            x.step(steps[i], steps[i + 1], steps[i + 2]);
        }
        Due.is("show() of " + e, x.show(), steps.length / 3);
    }

    private static void states(ShownLibrary x, int... due) {
        for (int e = 0; e < due.length; e++) {
            Due.is("of(" + e + ", 0)", x.of(e, 0), due[e]);
        }
    }

    /** One that is shown by STEPS, a CHANGE of WORD 0, and the STEP at which it is BROKEN then (NONE: it stays). */
    private static void breaksAt(String text, int e, String meaning, int due, int... steps) {
        ShownLibrary x = Due.with(text);
        shows(x, e, steps);
        Due.is("change(0) to " + meaning + " of " + text, Due.change(x, 0, meaning), due == Due.NONE ? 0 : 1);
        Due.is("of(" + e + ", 0)", x.of(e, 0), due == Due.NONE ? 2 : 3);
        Due.is("of(" + e + ", 6)", x.of(e, 6), due);
    }

    // ---- what is tried again

    private static void putInOrOut() {
        Due.says("all SHOWN ones whose PROOFS put it in or out, and those that LEAN on what breaks, are tried again");
        ShownLibrary x = Due.with("word a 1 mxx;word b 1 mxx;taken mxx=x;wish ax=x;wish mxx=ax;wish bx=x;wish aax=x;wish myy=y;wish ay=o;");
        shows(x, 1, PUT_IN, 0, 0, USE, 0, 0);
        shows(x, 2, PUT_OUT, 0, 0);
        shows(x, 3, PUT_IN, 0, 0, USE, 0, 0);
        shows(x, 4, USE, 1, 1, USE, 1, 0);
        shows(x, 5, USE, 0, 0);
        Due.is("1, 2 and 4 break", Due.change(x, 0, "o"), 3);
        states(x, 0, 3, 3, 2, 3, 2, 1);
        int[] at = {Due.NONE, 1, 0, Due.NONE, 0, Due.NONE, Due.NONE};
        for (int e = 0; e < at.length; e++) {
            Due.is("of(" + e + ", 6)", x.of(e, 6), at[e]);
        }
        Due.is("3 breaks", Due.change(x, 1, "x"), 1);
        states(x, 0, 3, 3, 3, 3, 2, 1);
    }

    private static void inTheOrderOfShowing() {
        Due.says("are tried again, in the order in which they were shown");
        // each one leans on the next one
        ShownLibrary x = Due.with("word a 1 x;wish maxo=mxo;wish amxo=mxo;wish aax=x;wish ax=x;");
        shows(x, 3, PUT_IN, 0, 0);
        shows(x, 2, USE, 3, 1, USE, 3, 0);
        shows(x, 1, USE, 3, 0);
        shows(x, 0, USE, 3, 1);
        Due.is("all break", Due.change(x, 0, "o"), 4);
        states(x, 3, 3, 3, 3);
        ShownLibrary y = Due.with("word a 1 x;wish ax=x;wish ax=x;wish ax=x;wish ax=x;");
        shows(y, 3, PUT_IN, 0, 0);
        shows(y, 1, USE, 3, 0);
        shows(y, 0, USE, 1, 0);
        shows(y, 2, USE, 0, 0);
        Due.is("each by the one ahead", Due.change(y, 0, "o"), 4);
        int[] at = {0, 0, 0, 1};
        for (int e = 0; e < 4; e++) {
            Due.is("of(" + e + ", 6)", y.of(e, 6), at[e]);
        }
    }

    private static void leansOnWhatStays() {
        Due.says("it stays SHOWN, if each STEP GOES (by SAYINGS that are TAKEN or SHOWN then) and it comes to its right TERM");
        ShownLibrary x = Due.with("word a 1 mxx;wish ao=moo;wish mayao=maymoo;wish ay=myy;wish mayao=mmyymoo;");
        shows(x, 0, PUT_IN, 0, 0);
        shows(x, 1, USE, 0, 3);
        shows(x, 2, PUT_IN, 0, 0);
        shows(x, 3, USE, 2, 1, PUT_IN, 0, 4);
        Due.is("ao is moo still, ay is not myy", Due.change(x, 0, "mxo"), 2);
        states(x, 2, 2, 3, 3);
        Due.is("2 does not come to it", x.of(2, 6), 1);
        Due.is("3 uses 2", x.of(3, 6), 0);
        Due.is("leans(1, 0)", x.leans(1, 0), 1);
        Due.is("the same again", Due.change(x, 0, "mxo"), 0);
        Due.is("the first meaning", Due.change(x, 0, "mxx"), 0);
        states(x, 2, 2, 3, 3);
        // what is BROKEN is not tried again; it may be shown anew
        shows(x, 2, PUT_IN, 0, 0);
        Due.is("those that stay count for nothing", Due.change(x, 0, "mox"), 1);
        states(x, 2, 2, 3, 3);
    }

    private static void atTheFirstStepThatDoesNotGo() {
        Due.says("else it is BROKEN, at the first STEP that does not GO");
        // -20: the PLACE is there no more
        breaksAt("word a 1 mxx;taken x=x;wish ax=mxx;", 1, "x", 1, PUT_IN, 0, 0, USE, 0, 2);
        // -21: no WORD's sign is there
        breaksAt("word c 1 x;word a 1 x;word b 1 x;wish cax=x;", 0, "o", 1, PUT_IN, 0, 0, PUT_IN, 0, 0);
        // -22: of a USE, BACK, PUT OUT
        breaksAt("word a 1 mxx;taken mxx=x;wish ax=x;", 1, "mxo", 1, PUT_IN, 0, 0, USE, 0, 0);
        breaksAt("word a 1 mxx;taken o=mxx;wish ax=o;", 1, "mxo", 1, PUT_IN, 0, 0, BACK, 0, 0);
        breaksAt("word a 1 mxx;wish mxx=ax;", 0, "mxo", 0, PUT_OUT, 0, 0);
        // -23: x is replaced by nothing
        breaksAt("word a 1 mxo;wish moo=ao;", 0, "moo", 0, PUT_OUT, 0, 0);
        // -24: 6 m and 7 times mxx are 27 SIGNS
        breaksAt("word a 1 x;wish amxx=mxx;", 0, "mmmmmmxxxxxxx", 0, PUT_IN, 0, 0);
        // -24 is met at the second STEP: 20 SIGNS are not too many behind the first one
        breaksAt("word a 1 x;wish maxax=mxx;", 0, "mmmmmmmmxxxxxxxxx", 1, PUT_IN, 0, 3, PUT_IN, 0, 1);
        // the first of several
        breaksAt("word a 1 mxx;taken mxx=x;wish mxaax=mxx;", 1, "o", 1, PUT_IN, 0, 3, USE, 0, 3, PUT_IN, 0, 2, USE, 0, 2);
    }

    private static void asManyAsItsSteps() {
        Due.says("(as many as its STEPS are, if it does not come to that)");
        breaksAt("word a 1 mxx;wish ax=mxx;", 0, "mxo", 1, PUT_IN, 0, 0);
        breaksAt("word a 1 mxx;taken x=x;wish ax=mxx;", 1, "mxo", 3, PUT_IN, 0, 0, USE, 0, 0, USE, 0, 1);
        breaksAt("word a 1 mxx;wish ao=moo;", 0, "mxo", Due.NONE, PUT_IN, 0, 0);
        // 20 STEPS: the last one puts in, or out
        int[] in = new int[60], out = new int[60];
        for (int i = 0; i < 19; i++) {
            in[3 * i + 2] = 1;
        }
        in[57] = PUT_IN;
        out[57] = PUT_OUT;
        breaksAt("word a 1 x;taken mxy=myx;wish amxy=myx;", 1, "mxx", 20, in);
        breaksAt("word a 1 x;taken mxy=myx;wish mxy=amyx;", 1, "mxx", 19, out);
        breaksAt("word a 1 x;taken mxy=myx;wish mxy=amyx;", 1, "x", Due.NONE, out);
    }

    private static void noStepsNeverBreak() {
        Due.says("all SHOWN ones whose PROOFS put it in or out");
        ShownLibrary x = Due.with("word a 1 x;wish ax=ax;wish ax=x;");
        shows(x, 0);
        shows(x, 1, PUT_IN, 0, 0);
        Due.is("1 breaks", Due.change(x, 0, "o"), 1);
        states(x, 2, 3);
        Due.is("count(6)", x.count(6), 1);
    }

    private static void onTheDay() {
        Due.says("What a SAYING was on a day (0 to 999; 0 to 3, behind all that was done then).");
        ShownLibrary x = Due.with("word a 1 x;wish ax=x;wish aax=x;");
        x.day(1);
        shows(x, 0, PUT_IN, 0, 0);
        shows(x, 1, USE, 0, 1, USE, 0, 0);
        x.day(7);
        Due.is("both", Due.change(x, 0, "o"), 2);
        for (int e = 0; e < 2; e++) {
            Due.is("as(" + e + ", 0)", x.as(e, 0), 1);
            Due.is("as(" + e + ", 1)", x.as(e, 1), 2);
            Due.is("as(" + e + ", 6)", x.as(e, 6), 2);
            Due.is("as(" + e + ", 7)", x.as(e, 7), 3);
        }
    }

    /** SAYINGS and WORDS still come behind 40 turns, and are what they are told to be. */
    private static void manyTurnsAhead() {
        Due.says("SAYINGS (24) are numbered as they come");
        ShownLibrary x = Due.with("word a 1 x;wish ax=x;wish ao=o;");
        for (int i = 0; i < 10; i++) {
            Due.is("take(0, ..)", x.take(0, 1, 3), 1);
            Due.is("take(1, ..)", x.take(1, 1, 3), 1);
            Due.is("both break", Due.change(x, 0, "mxx"), 2);
            Due.change(x, 0, "x");
        }
        for (int e = 2; e < 24; e++) {
            Due.is("saying " + e, Due.tell(x, e % 2 == 0 ? "taken x=ax;" : "wish x=y;"), 1);
            Due.is("of(" + e + ", 0)", x.of(e, 0), e % 2);
            Due.is("of(" + e + ", 3)", x.of(e, 3), 1);
            Due.is("as(" + e + ", 0)", x.as(e, 0), e % 2);
        }
        Due.is("count(0)", x.count(0), 24);
        Due.is("a word", Due.tell(x, "word b 2 mxy;"), 1);
        Due.is("word(1, 2)", x.word(1, 2), 3);
    }

    // ---- the call

    private static ShownLibrary inHand() {
        return Due.proving("word a 1 x;word b 2 mxay;word c 1 bxx;wish ax=x;wish mxy=o;", 1);
    }

    private static void fault(int w, String tape, int fault, int place) {
        ShownLibrary x = inHand();
        int signs = x.word(w, 2);
        x.take(0, 1, 20);
        Due.is("change(" + w + ") to '" + tape + "'", Due.change(x, w, tape), -10 - place);
        Due.is("fault() of '" + tape + "'", x.fault(), fault);
        Due.is("the tape is empty", x.count(9), 0);
        Due.is("the meaning stays", x.word(w, 2), signs);
        Due.is("0 stays", x.of(0, 0), 2);
        Due.is("the proof in hand stays", x.proof(0), 1);
        Due.is("its term, too", x.proof(2), 3);
    }

    private static void good(int w, String tape, String meaning) {
        ShownLibrary x = inHand();
        Due.is("change(" + w + ") to '" + tape + "'", Due.change(x, w, tape), 0);
        Due.is("fault() of '" + tape + "'", x.fault(), 0);
        Due.is("the tape is empty", x.count(9), 0);
        Due.is("signs", x.word(w, 2), meaning.length());
        for (int i = 0; i < meaning.length(); i++) {
            Due.is("word(" + w + ", " + (10 + i) + ")", x.word(w, 10 + i), meaning.charAt(i) - 'a');
        }
        Due.is("the proof in hand is dropped", x.proof(0), Due.STATE);
    }

    private static void aTermAsWanted() {
        Due.says("THE TAPE (empty then) tells one ROW, a TERM as wanted, the MEANING that a WORD has from now on");
        good(0, "x", "x");
        good(0, "o", "o");
        good(0, "mxmxo", "mxmxo");
        good(0, "   mxx   ", "mxx");
        good(1, "y", "y");
        good(1, "aamyx", "aamyx");
        good(2, "abxaax", "abxaax");
        good(1, "a".repeat(19) + "y", "a".repeat(19) + "y");
        fault(1, "a".repeat(20) + "y", 5, 0);
        for (String none : new String[] {"y", "z", "ax", "bxx", "cx", "dx", "mx", "m", "xx", "q", "a", "wish"}) {
            fault(0, none, 5, 0);
        }
        for (String none : new String[] {"z", "bxy", "cx", "mxz", "axy", "may"}) {
            fault(1, none, 5, 0);
        }
        for (String none : new String[] {"y", "cx", "acx", "bx", "bxxx", "mby"}) {
            fault(2, none, 5, 0);
        }
        fault(0, "   y", 5, 3);
    }

    private static void itsFaults() {
        Due.says("-10 less the place of its FAULT (1, 2 (also anything behind it), 5): nothing changed.");
        fault(0, "", 2, 0);
        fault(0, " ", 2, 1);
        fault(0, " ".repeat(240), 2, 240);
        fault(0, ";", 2, 0);
        fault(0, "=", 2, 0);
        fault(0, " 1", 2, 1);
        fault(0, "?", 1, 0);
        fault(0, " 12", 1, 1);
        fault(0, "X", 1, 0);
        fault(0, "x;", 2, 1);
        fault(0, "x =", 2, 2);
        fault(0, "x 1", 2, 2);
        fault(0, "x x", 2, 2);
        fault(0, "x 11", 1, 2);
        fault(0, "x  ?", 1, 3);
        fault(0, "x" + " ".repeat(238) + "x", 2, 239);
        fault(0, "x" + " ".repeat(238) + "?", 1, 239);
        fault(0, "y ?", 5, 0);
        fault(0, "y x", 5, 0);
        good(0, "x" + " ".repeat(239), "x");
        good(0, " ".repeat(239) + "x", "x");
    }

    private static void badLeavesTheTape() {
        Due.says("BAD (THE TAPE stays)");
        ShownLibrary x = inHand();
        Due.type(x, "mxx");
        for (int w : new int[] {Due.MIN, -1, 3, 4, 32, Due.MAX}) {
            Due.is("change(" + w + ")", x.change(w), Due.BAD);
            Due.is("count(9)", x.count(9), 3);
        }
        Due.is("the proof in hand stays", x.proof(0), 1);
        Due.is("it is there for the next one", x.change(0), 0);
        Due.is("word(0, 2)", x.word(0, 2), 3);
        Due.is("the tape is empty then", x.count(9), 0);
    }

    private static void theProofInHandIsDropped() {
        Due.says("(When it is taken, THE PROOF in hand is dropped.)");
        ShownLibrary x = inHand();
        Due.is("the meaning that it had", Due.change(x, 0, "x"), 0);
        Due.is("dropped", x.proof(0), Due.STATE);
        Due.is("step()", x.step(0, 0, 0), Due.STATE);
        Due.is("undo()", x.undo(), Due.NONE);
        Due.is("show()", x.show(), Due.STATE);
        Due.is("none was in hand", Due.change(x, 0, "o"), 0);
    }

    private static void fromNowOn() {
        Due.says("the MEANING that a WORD has from now on: how many became BROKEN.");
        ShownLibrary x = Due.with("word a 1 x;word b 1 ax;wish bx=mxo;wish x=y;");
        Due.is("a is mxo", Due.change(x, 0, "mxo"), 0);
        Due.is("its letter", x.word(0, 0), 0);
        Due.is("how many terms it has", x.word(0, 1), 1);
        Due.is("b has a in it", x.seek(0, 2, 9, 0), 2);
        Due.is("b has not changed", x.word(1, 2), 2);
        x.prove(0);
        Due.goes(x, PUT_IN, 0, 0, "ax");
        Due.goes(x, PUT_IN, 0, 0, "mxo");
        Due.is("show()", x.show(), 2);
        Due.is("in a world where mxo is not x", x.holds(0, 2, 0), 1);
        Due.is("b becomes x", Due.change(x, 1, "x"), 1);
        Due.is("at its second step", x.of(0, 6), 1);
        Due.is("it does not hold there now", x.holds(0, 2, 0), 0);
    }

    public static void main(String[] args) {
        putInOrOut();
        inTheOrderOfShowing();
        leansOnWhatStays();
        atTheFirstStepThatDoesNotGo();
        asManyAsItsSteps();
        noStepsNeverBreak();
        onTheDay();
        manyTurnsAhead();
        aTermAsWanted();
        itsFaults();
        badLeavesTheTape();
        theProofInHandIsDropped();
        fromNowOn();
        Due.finish();
    }
}
