/** The edges of proofs, of the 200 steps, of leaning and of what is told of sayings and words, sentence by sentence. */
public final class EdgesProofsTest {
    private static final int USE = 0, BACK = 1, PUT_IN = 2, PUT_OUT = 3;

    // ---- a proof

    private static void aProofIsOfAWishedOrBrokenOne() {
        Due.says("A PROOF of a WISHED or BROKEN SAYING: a row of STEPS from its left TERM to its right one, just so.");
        ShownLibrary x = Due.with("word a 1 mxx;taken mxy=myx;wish ao=moo;wish mxy=mzx;");
        Due.is("of a taken one", x.prove(0), Due.STATE);
        Due.is("of a wished one", x.prove(1), 2);
        Due.goes(x, PUT_IN, 0, 0, "moo");
        Due.is("it is shown", x.show(), 1);
        Due.is("of a shown one", x.prove(1), Due.STATE);
        Due.is("broken", Due.change(x, 0, "o"), 1);
        Due.is("of a broken one", x.prove(1), 2);
        Due.reads("it begins with its left term", Due.inHand(x), "ao");
        Due.change(x, 0, "mxx");
        Due.is("again", x.prove(1), 2);
        Due.goes(x, PUT_IN, 0, 0, "moo");
        Due.is("shown anew", x.show(), 1);
    }

    private static void justSo() {
        Due.says("a row of STEPS from its left TERM to its right one, just so.");
        ShownLibrary x = Due.with("word a 1 x;taken mxy=myx;wish mxy=myx;wish ax=x;wish mxy=mxz;wish x=ax;wish mxx=x;");
        for (int e = 1; e <= 5; e++) {
            x.prove(e);
            Due.is("show() of no steps: " + e, x.show(), Due.STATE);
            Due.is("proof(3) of no steps: " + e, x.proof(3), 0);
        }
        x.prove(1);
        Due.goes(x, USE, 0, 0, "myx");
        Due.is("it is the right one", x.proof(3), 1);
        Due.goes(x, USE, 0, 0, "mxy");
        Due.is("it was the right one", x.proof(3), 0);
        Due.is("show() beyond it", x.show(), Due.STATE);
        x.undo();
        Due.is("it is again", x.proof(3), 1);
        Due.is("show()", x.show(), 1);
        x.prove(3);
        Due.goes(x, USE, 0, 0, "myx");
        Due.is("myx is not mxz", x.show(), Due.STATE);
    }

    private static void oneAtATime() {
        Due.says("THE PROOF in hand is one at a time.");
        ShownLibrary x = Due.with("taken mxy=myx;wish mxo=mox;wish mmxyz=o;");
        x.prove(1);
        Due.goes(x, USE, 0, 0, "mox");
        Due.is("prove(2)", x.prove(2), 5);
        Due.is("its saying", x.proof(0), 2);
        Due.is("its steps", x.proof(1), 0);
        Due.is("prove(1) begins anew", x.prove(1), 3);
        Due.is("its steps", x.proof(1), 0);
        Due.reads("its term", Due.inHand(x), "mxo");
        Due.is("undo()", x.undo(), Due.NONE);
        Due.goes(x, USE, 0, 0, "mox");
        Due.is("prove(1) of the same one", x.prove(1), 3);
        Due.is("it is dropped, too", x.proof(1), 0);
    }

    private static void prove() {
        Due.says("THE PROOF in hand begins for a SAYING (another one is dropped): SIGNS of its left TERM. BAD; STATE: it is TAKEN, SHOWN.");
        ShownLibrary x = Due.with("wish o=x;taken x=x;wish " + "m".repeat(9) + "x".repeat(10) + "=o;wish mxo=mxo;");
        Due.is("one sign", x.prove(0), 1);
        Due.is("19 signs", x.prove(2), 19);
        Due.is("prove(4)", x.prove(4), Due.BAD);
        Due.is("prove(-1)", x.prove(-1), Due.BAD);
        Due.is("prove(1)", x.prove(1), Due.STATE);
        Due.is("none of these dropped it", x.proof(0), 2);
        Due.is("3 is shown", x.take(3, 0, 20), 0);
        Due.is("prove(3)", x.prove(3), Due.STATE);
        Due.is("that drops nothing", x.proof(0), 2);
        ShownLibrary y = Due.with("word a 1 x;wish " + "a".repeat(19) + "x=o;");
        Due.is("20 signs", y.prove(0), 20);
    }

    private static void step() {
        Due.says("A STEP (kind, of which SAYING or WORD; PUT IN: not looked at) at a PLACE: SIGNS of the TERM then. BAD: kind; STATE: there is no PROOF in hand");
        ShownLibrary x = Due.with("word a 1 mxx;taken mxy=myx;wish ao=moo;");
        for (int kind : new int[] {Due.MIN, -1, 4, 5, Due.MAX}) {
            Due.is("kind " + kind + " with no proof", x.step(kind, 0, 0), Due.BAD);
        }
        for (int kind = USE; kind <= PUT_OUT; kind++) {
            Due.is("kind " + kind + " with no proof", x.step(kind, 0, 0), Due.STATE);
            Due.is("kind " + kind + " with no proof, no such place", x.step(kind, 99, -1), Due.STATE);
        }
        for (int which : new int[] {Due.MIN, -1, 0, 1, 4, 24, Due.MAX}) {
            x.prove(1);
            Due.stays(x, -1, which, 0, Due.BAD);
            Due.stays(x, 4, which, 0, Due.BAD);
            Due.goes(x, PUT_IN, which, 0, "moo");
        }
        x.show();
        Due.is("none is in hand behind show()", x.step(USE, 0, 0), Due.STATE);
    }

    private static void twentySteps() {
        Due.says("FULL: 20 STEPS are there; -20 to -24: it does not GO.");
        ShownLibrary x = Due.proving("taken mxy=myx;wish mxy=mxy;", 1);
        for (int i = 0; i < 20; i++) {
            Due.is("proof(1)", x.proof(1), i);
            Due.goes(x, USE, 0, 0, i % 2 == 0 ? "myx" : "mxy");
        }
        Due.stays(x, USE, 0, 0, Due.FULL);
        Due.stays(x, BACK, 0, 0, Due.FULL);
        Due.stays(x, PUT_IN, 0, 0, Due.FULL);
        Due.stays(x, PUT_OUT, 0, 9, Due.FULL);
        Due.stays(x, 4, 0, 0, Due.BAD);
        Due.is("undo()", x.undo(), 19);
        Due.stays(x, USE, 0, 9, -20);
        Due.goes(x, BACK, 0, 0, "mxy");
        Due.is("show()", x.show(), 20);
        Due.is("of(1, 5)", x.of(1, 5), 20);
        Due.is("the last step", x.stepOf(1, 19, 0), BACK);
        Due.is("none behind it", x.stepOf(1, 20, 0), Due.BAD);
    }

    private static void undo() {
        Due.says("The latest STEP of THE PROOF in hand is taken back: how many are left. NONE.");
        ShownLibrary x = Due.with("word a 1 mxx;taken mxy=myx;wish maxo=mox;");
        Due.is("none is in hand", x.undo(), Due.NONE);
        x.prove(1);
        Due.is("no steps", x.undo(), Due.NONE);
        Due.goes(x, USE, 0, 0, "moax");
        Due.goes(x, PUT_IN, 0, 2, "momxx");
        Due.is("one is left", x.undo(), 1);
        Due.reads("the term of it", Due.inHand(x), "moax");
        Due.is("none is left", x.undo(), 0);
        Due.reads("the left term", Due.inHand(x), "maxo");
        Due.is("none is to be taken back", x.undo(), Due.NONE);
        Due.is("it is in hand still", x.proof(0), 1);
    }

    private static void proof() {
        Due.says("Of THE PROOF in hand: 0 its SAYING, 1 STEPS, 2 SIGNS of its TERM, 3 whether it is the right one (1, 0); 10 and i: the letter at place i.");
        ShownLibrary x = Due.with("taken mxy=myx;wish mxo=mox;wish o=o;");
        x.prove(1);
        int[] due = {1, 0, 3, 0};
        for (int what = 0; what < 4; what++) {
            Due.is("proof(" + what + ")", x.proof(what), due[what]);
        }
        int[] letters = {12, 23, 14};
        for (int i = 0; i < 3; i++) {
            Due.is("proof(" + (10 + i) + ")", x.proof(10 + i), letters[i]);
        }
        Due.says("BAD: also i not below its SIGNS, 10 and more when there is none; STATE: there is none.");
        for (int what : new int[] {Due.MIN, -1, 4, 5, 9, 13, 14, 29, 30, Due.MAX}) {
            Due.is("proof(" + what + ")", x.proof(what), Due.BAD);
        }
        x.prove(2);
        Due.is("one sign: proof(10)", x.proof(10), 14);
        Due.is("one sign: proof(11)", x.proof(11), Due.BAD);
        Due.is("at once the right one", x.proof(3), 1);
        x.show();
        for (int what = 0; what < 4; what++) {
            Due.is("none in hand: proof(" + what + ")", x.proof(what), Due.STATE);
        }
        for (int what : new int[] {Due.MIN, -1, 4, 9, 10, 11, 29, 30, Due.MAX}) {
            Due.is("none in hand: proof(" + what + ")", x.proof(what), Due.BAD);
        }
    }

    private static void show() {
        Due.says("THE PROOF in hand is told: its SAYING is SHOWN: how many STEPS (none is in hand then). STATE: there is none, or it is not at the right TERM");
        ShownLibrary x = Due.with("taken mxy=myx;wish mxo=mox;wish o=o;");
        Due.is("none in hand", x.show(), Due.STATE);
        x.prove(1);
        Due.is("not at the right term", x.show(), Due.STATE);
        Due.is("it stays in hand", x.proof(0), 1);
        x.step(USE, 0, 0);
        Due.is("one step", x.show(), 1);
        Due.is("it is shown", x.of(1, 0), 2);
        Due.is("none is in hand", x.proof(0), Due.STATE);
        Due.is("show() again", x.show(), Due.STATE);
        x.prove(2);
        Due.is("no step", x.show(), 0);
        Due.is("it is shown", x.of(2, 0), 2);
        Due.is("of no steps", x.of(2, 5), 0);
    }

    // ---- the 200 steps of all

    /** Nine PROOFS of 20 STEPS, one of 19: 199 STEPS are told; 10, 11 and 12 are wished, SHEET 0 has 20 USES. */
    private static ShownLibrary nearlyFull() {
        ShownLibrary x = Due.with("taken mxy=myx;");
        for (int i = 0; i < 9; i++) {
            Due.tell(x, "wish mxy=mxy;");
        }
        Due.tell(x, "wish mxy=myx;wish mxy=myx;wish mxo=mxo;wish mxx=mxx;");
        Due.sheet(x, 0, 0, new int[60]);
        for (int e = 1; e <= 9; e++) {
            Due.is("read of 20", x.read(e, 0, 0, 0, 20), 1);
        }
        Due.is("read of 19", x.read(10, 0, 0, 0, 19), 1);
        Due.is("199 steps", x.count(6), 199);
        return x;
    }

    private static void fullOfShow() {
        Due.says("STATE: there is none, or it is not at the right TERM; FULL: more than 200 STEPS of all.");
        ShownLibrary x = nearlyFull();
        x.prove(12);
        x.step(USE, 0, 0);
        Due.is("STATE ahead of FULL", x.show(), Due.STATE);
        x.step(USE, 0, 0);
        Due.is("201", x.show(), Due.FULL);
        Due.is("it stays in hand", x.proof(1), 2);
        Due.is("it is wished still", x.of(12, 0), 1);
        Due.is("it was never shown", x.of(12, 5), Due.NONE);
        Due.is("199 still", x.count(6), 199);
        x.prove(11);
        x.step(USE, 0, 0);
        Due.is("200", x.show(), 1);
        Due.is("count(6)", x.count(6), 200);
        Due.is("the step at 199", x.stepOf(11, 0, 0), USE);
        x.prove(12);
        Due.is("no steps more", x.show(), 0);
        Due.is("count(6) still", x.count(6), 200);
    }

    private static void fullOfTake() {
        Due.says("FULL: more than 200 STEPS of all. (THE PROOF in hand is dropped, if it is of that one.)");
        ShownLibrary x = nearlyFull();
        Due.tell(x, "wish mmxyo=moz;wish mmxyo=momyx;");
        x.prove(15);
        Due.is("NONE ahead of FULL", x.take(14, 3, 9), Due.NONE);
        Due.is("201", x.take(15, 3, 9), Due.FULL);
        Due.is("seek() of the same", x.seek(15, 3, 9, 0), 2);
        Due.is("it stays in hand", x.proof(0), 15);
        Due.is("it is wished still", x.of(15, 0), 1);
        Due.is("200", x.take(11, 3, 9), 1);
        Due.is("no steps more", x.take(12, 3, 9), 0);
        Due.is("count(6)", x.count(6), 200);
    }

    private static void fullOfRead() {
        Due.says("0: they do not come to its right TERM; FULL: more than 200 STEPS of all; the first: then nothing is shown.");
        ShownLibrary x = nearlyFull();
        x.prove(12);
        Due.is("0 ahead of FULL", x.read(12, 0, 0, 0, 3), 0);
        Due.is("201", x.read(12, 0, 0, 0, 2), Due.FULL);
        Due.is("it stays in hand", x.proof(0), 12);
        Due.is("it is wished still", x.of(12, 0), 1);
        Due.is("as it was", x.as(12, 0), 1);
        Due.is("200", x.read(11, 0, 0, 0, 1), 1);
        Due.is("no steps more", x.read(12, 0, 0, 0, 0), 1);
        Due.is("count(6)", x.count(6), 200);
    }

    private static void shownAnewComesBehindAll() {
        Due.says("STEPS of all PROOFS that were shown: 200 (those of one that is shown anew come behind all; the old ones count still).");
        ShownLibrary x = Due.with("word a 1 x;taken mxy=myx;wish ax=x;wish mxy=mxy;");
        x.prove(1);
        Due.goes(x, PUT_IN, 0, 0, "x");
        Due.is("show 1", x.show(), 1);
        Due.is("broken", Due.change(x, 0, "o"), 1);
        Due.is("its step counts still", x.count(6), 1);
        Due.is("and can be asked for", x.stepOf(1, 0, 0), PUT_IN);
        Due.change(x, 0, "x");
        x.prove(2);
        x.step(USE, 0, 0);
        x.step(BACK, 0, 0);
        Due.is("show 2", x.show(), 2);
        x.prove(1);
        Due.goes(x, PUT_OUT, 0, 1, "aax");
        Due.goes(x, PUT_IN, 0, 0, "ax");
        Due.goes(x, PUT_IN, 0, 0, "x");
        Due.is("show 1 anew", x.show(), 3);
        Due.is("1, 2 and 3 steps", x.count(6), 6);
        Due.is("its new steps", x.of(1, 5), 3);
        int[] kinds = {PUT_OUT, PUT_IN, PUT_IN};
        for (int i = 0; i < 3; i++) {
            Due.is("stepOf(1, " + i + ", 0)", x.stepOf(1, i, 0), kinds[i]);
        }
        Due.is("stepOf(1, 3, 0)", x.stepOf(1, 3, 0), Due.BAD);
        Due.is("those of 2 stay", x.stepOf(2, 1, 0), BACK);
    }

    private static void stepOf() {
        Due.says("Of STEP i of the PROOF of a SAYING that is SHOWN or BROKEN: 0 kind, 1 of which (PUT IN: NONE), 2 the PLACE. BAD; NONE: it was never shown.");
        ShownLibrary x = Due.with("taken x=x;word a 1 x;word c 1 x;taken mxy=myx;wish maxo=mocx;wish x=o;wish x=x;");
        x.prove(2);
        x.step(USE, 1, 0);
        x.step(PUT_IN, 1, 2);
        x.step(PUT_OUT, 1, 2);
        x.step(BACK, 0, 3);
        int[][] due = {{USE, 1, 0}, {PUT_IN, Due.NONE, 2}, {PUT_OUT, 1, 2}, {BACK, 0, 3}};
        Due.is("in hand: never shown yet", x.stepOf(2, 0, 0), Due.NONE);
        Due.is("show", x.show(), 4);
        for (int round = 0; round < 2; round++) {
            for (int i = 0; i < 4; i++) {
                for (int what = 0; what < 3; what++) {
                    Due.is("stepOf(2, " + i + ", " + what + ")", x.stepOf(2, i, what), due[i][what]);
                }
                Due.is("stepOf(2, " + i + ", 3)", x.stepOf(2, i, 3), Due.BAD);
                Due.is("stepOf(2, " + i + ", -1)", x.stepOf(2, i, -1), Due.BAD);
            }
            Due.is("stepOf(2, 4, 0)", x.stepOf(2, 4, 0), Due.BAD);
            Due.is("stepOf(2, -1, 0)", x.stepOf(2, -1, 0), Due.BAD);
            Due.change(x, 1, "o");
            Due.is("broken then", x.of(2, 0), 3);
        }
        Due.is("a taken one", x.stepOf(0, 0, 0), Due.NONE);
        Due.is("a wished one", x.stepOf(3, 0, 0), Due.NONE);
        Due.is("of no steps", x.take(4, 0, 1), 0);
        Due.is("a shown one of no steps", x.stepOf(4, 0, 0), Due.BAD);
        Due.is("no such one", x.stepOf(5, 0, 0), Due.BAD);
    }

    // ---- leaning

    private static void againAndAgain() {
        Due.says("LEANS: a SHOWN SAYING on those that its PROOF USES (BACK, too), and on what these LEAN on, again and again.");
        // a chain, told from its end: 0 leans on 1, 1 on 2, .. 7 on 8, which is taken
        ShownLibrary x = Due.with("wish x=mxo;wish x=mxo;wish x=mxo;wish x=mxo;wish x=mxo;wish x=mxo;wish x=mxo;wish x=mxo;taken x=mxo;taken x=x;");
        for (int e = 7; e >= 0; e--) {
            x.prove(e);
            Due.goes(x, USE, e + 1, 0, "mxo");
            Due.is("show " + e, x.show(), 1);
        }
        for (int e = 0; e < 8; e++) {
            int under = 0x1ff & ~((2 << e) - 1);
            Due.is("leans(" + e + ", 0)", x.leans(e, 0), under);
            Due.is("leans(" + e + ", 1)", x.leans(e, 1), 0x100);
            Due.is("leans(" + e + ", 2)", x.leans(e, 2), (1 << e) - 1);
            Due.is("of(" + e + ", 7)", x.of(e, 7), 8 - e);
            Due.is("of(" + e + ", 8)", x.of(e, 8), e);
        }
        Due.is("leans(8, 2)", x.leans(8, 2), 0xff);
        Due.is("leans(8, 0)", x.leans(8, 0), 0);
        Due.is("leans(8, 1)", x.leans(8, 1), 0);
        Due.is("nothing leans on 9", x.leans(9, 2), 0);
        Due.is("of(8, 8)", x.of(8, 8), 8);
    }

    private static void leansOnWhatItUses() {
        Due.says("on those that its PROOF USES (BACK, too)");
        ShownLibrary x = Due.with("word a 1 x;taken mxy=myx;taken x=ax;taken x=y;wish amxo=mox;wish x=x;");
        x.prove(3);
        Due.goes(x, BACK, 1, 0, "mxo");
        Due.goes(x, USE, 0, 0, "mox");
        Due.goes(x, PUT_OUT, 0, 0, "amox");
        Due.is("what is in hand leans on nothing", x.leans(3, 0), 0);
        Due.goes(x, PUT_IN, 0, 0, "mox");
        Due.goes(x, USE, 0, 0, "mxo");
        Due.goes(x, USE, 0, 0, "mox");
        Due.is("show", x.show(), 6);
        Due.is("use and back", x.leans(3, 0), 3);
        Due.is("each one once", x.of(3, 7), 2);
        x.prove(4);
        Due.goes(x, PUT_OUT, 0, 0, "ax");
        Due.goes(x, USE, 1, 0, "aax");
        Due.is("taken back", x.undo(), 1);
        Due.goes(x, PUT_IN, 0, 0, "x");
        Due.is("show", x.show(), 2);
        Due.is("words alone", x.leans(4, 0), 0);
        Due.is("of(4, 7)", x.of(4, 7), 0);
    }

    private static void aShownOneAlone() {
        Due.says("7 how many it LEANS on (those that are not SHOWN: 0), 8 how many LEAN on it. BAD.");
        ShownLibrary x = Due.with("word a 1 x;taken mxo=x;wish amxo=x;wish mamxoo=x;wish x=y;");
        x.prove(1);
        Due.goes(x, PUT_IN, 0, 0, "mxo");
        Due.goes(x, USE, 0, 0, "x");
        x.show();
        x.prove(2);
        Due.goes(x, USE, 1, 1, "mxo");
        Due.goes(x, USE, 0, 0, "x");
        x.show();
        int[][] due = {{0, 2}, {1, 1}, {2, 0}, {0, 0}};
        for (int e = 0; e < 4; e++) {
            Due.is("of(" + e + ", 7)", x.of(e, 7), due[e][0]);
            Due.is("of(" + e + ", 8)", x.of(e, 8), due[e][1]);
        }
        Due.is("both break", Due.change(x, 0, "o"), 2);
        for (int e = 0; e < 4; e++) {
            Due.is("of(" + e + ", 7) then", x.of(e, 7), 0);
            Due.is("of(" + e + ", 8) then", x.of(e, 8), 0);
            Due.is("leans(" + e + ", 0) then", x.leans(e, 0), 0);
            Due.is("leans(" + e + ", 1) then", x.leans(e, 1), 0);
            Due.is("leans(" + e + ", 2) then", x.leans(e, 2), 0);
        }
    }

    private static void grounds() {
        Due.says("GROUNDS: those of them that are TAKEN.");
        ShownLibrary x = Due.with("wish mox=mxo;taken mxy=myx;taken mxo=x;wish mox=x;taken x=x;");
        Due.is("0 by 1", x.take(0, 1, 3), 1);
        x.prove(3);
        Due.goes(x, USE, 0, 0, "mxo");
        Due.goes(x, USE, 2, 0, "x");
        x.show();
        Due.is("leans(3, 0)", x.leans(3, 0), 1 + 2 + 4);
        Due.is("leans(3, 1)", x.leans(3, 1), 2 + 4);
        Due.is("leans(0, 1)", x.leans(0, 1), 2);
        Due.is("a ground has none", x.leans(1, 1), 0);
        Due.is("4 is ground of nothing", x.leans(4, 2), 0);
        Due.says("What a SAYING LEANS on (bits; what 0), GROUNDS (1), all that LEAN on it (2). BAD.");
        for (int what : new int[] {Due.MIN, -1, 3, 4, Due.MAX}) {
            Due.is("leans(3, " + what + ")", x.leans(3, what), Due.BAD);
        }
        for (int e : new int[] {Due.MIN, -1, 5, 24, 32, Due.MAX}) {
            Due.is("leans(" + e + ", 0)", x.leans(e, 0), Due.BAD);
        }
    }

    // ---- of, sign, word, as

    private static void of() {
        Due.says("5 STEPS of its PROOF (NONE: it was never shown), 6 the STEP at which it is BROKEN (NONE)");
        ShownLibrary x = Due.with("word a 1 mxo;taken mxo=x;wish ax=x;wish ax=mxo;wish x=y;wish mxo=x;");
        x.take(1, 3, 20);
        x.take(2, 1, 20);
        x.take(4, 1, 20);
        int[] steps = {Due.NONE, 2, 1, Due.NONE, 1};
        for (int e = 0; e < 5; e++) {
            Due.is("of(" + e + ", 5)", x.of(e, 5), steps[e]);
            Due.is("of(" + e + ", 6)", x.of(e, 6), Due.NONE);
        }
        Due.is("1 and 2 break", Due.change(x, 0, "mox"), 2);
        int[] at = {Due.NONE, 1, 1, Due.NONE, Due.NONE};
        for (int e = 0; e < 5; e++) {
            Due.is("of(" + e + ", 5) then", x.of(e, 5), steps[e]);
            Due.is("of(" + e + ", 6) then", x.of(e, 6), at[e]);
        }
        Due.change(x, 0, "mxo");
        x.take(1, 3, 20);
        Due.is("shown anew: of(1, 6)", x.of(1, 6), Due.NONE);
        Due.is("broken still: of(2, 6)", x.of(2, 6), 1);
    }

    private static void sign() {
        Due.says("The letter (a is 0) at place i of a TERM (side 0 left, 1 right). BAD: also i below 0; NONE.");
        ShownLibrary x = Due.with("word a 1 x;word b 1 x;word c 1 x;word d 1 x;wish abcdmxmyz=o;wish z=abcdmxmyo;");
        String[][] sides = {{"abcdmxmyz", "o"}, {"z", "abcdmxmyo"}};
        for (int e = 0; e < 2; e++) {
            for (int side = 0; side < 2; side++) {
                String t = sides[e][side];
                for (int i = 0; i < t.length(); i++) {
                    Due.is("sign(" + e + ", " + side + ", " + i + ")", x.sign(e, side, i), t.charAt(i) - 'a');
                }
                for (int i : new int[] {t.length(), t.length() + 1, 19, 20, 21, Due.MAX}) {
                    Due.is("sign(" + e + ", " + side + ", " + i + ")", x.sign(e, side, i), Due.NONE);
                }
                for (int i : new int[] {Due.MIN, -1}) {
                    Due.is("sign(" + e + ", " + side + ", " + i + ")", x.sign(e, side, i), Due.BAD);
                }
            }
            for (int side : new int[] {Due.MIN, -1, 2, Due.MAX}) {
                Due.is("sign(" + e + ", " + side + ", 0)", x.sign(e, side, 0), Due.BAD);
            }
        }
    }

    private static void word() {
        Due.says("Of a WORD: 0 its letter, 1 how many TERMS it has, 2 SIGNS of its MEANING, 3 PROOFS of SHOWN ones that put it in or out; 10 and i: the letter at place i of its MEANING. BAD.");
        ShownLibrary x = Due.with("word d 2 mymxo;word a 1 o;wish ax=o;wish dxo=mdooo;wish o=x;");
        int[][] due = {{3, 2, 5, 0}, {0, 1, 1, 0}};
        String[] meanings = {"mymxo", "o"};
        for (int w = 0; w < 2; w++) {
            for (int what = 0; what < 4; what++) {
                Due.is("word(" + w + ", " + what + ")", x.word(w, what), due[w][what]);
            }
            for (int i = 0; i < meanings[w].length(); i++) {
                Due.is("word(" + w + ", " + (10 + i) + ")", x.word(w, 10 + i), meanings[w].charAt(i) - 'a');
            }
            int behind = 10 + meanings[w].length();
            for (int what : new int[] {Due.MIN, -1, 4, 5, 9, behind, behind + 1, 29, 30, Due.MAX}) {
                Due.is("word(" + w + ", " + what + ")", x.word(w, what), Due.BAD);
            }
        }
        // several STEPS of one PROOF are one PROOF; what is in hand is none
        x.prove(1);
        Due.goes(x, PUT_IN, 0, 0, "momxo");
        Due.goes(x, PUT_OUT, 0, 0, "dxo");
        Due.goes(x, PUT_IN, 0, 0, "momxo");
        Due.is("in hand", x.word(0, 3), 0);
        Due.is("not shown", x.show(), Due.STATE);
        x.prove(0);
        Due.goes(x, PUT_IN, 0, 0, "o");
        x.show();
        Due.is("a by one", x.word(1, 3), 1);
        Due.is("d by none", x.word(0, 3), 0);
        ShownLibrary y = Due.with("word a 1 mxo;word b 1 mxo;wish ax=mxo;wish mxo=bx;wish ax=bx;wish x=x;");
        for (int e : new int[] {2, 0, 1, 3}) {
            y.take(e, 2, 20);
        }
        Due.is("a by 0 and 2", y.word(0, 3), 2);
        Due.is("b by 1 and 2", y.word(1, 3), 2);
        Due.change(y, 0, "o");
        Due.is("a by none that is shown", y.word(0, 3), 0);
        Due.is("b by 1", y.word(1, 3), 1);
        Due.is("its new meaning", y.word(0, 10), 14);
        Due.is("of one sign", y.word(0, 11), Due.BAD);
    }

    private static void as() {
        Due.says("What a SAYING was on a day (0 to 999; 0 to 3, behind all that was done then). BAD; NONE: it had not come.");
        ShownLibrary x = Due.with("word a 1 x;");
        x.day(10);
        Due.tell(x, "wish ax=x;taken x=x;");
        x.day(999);
        Due.tell(x, "wish x=x;");
        int[] days = {0, 9, 10, 11, 998, 999};
        int[][] due = {{Due.NONE, Due.NONE, 1, 1, 1, 1}, {Due.NONE, Due.NONE, 0, 0, 0, 0},
            {Due.NONE, Due.NONE, Due.NONE, Due.NONE, Due.NONE, 1}};
        for (int e = 0; e < 3; e++) {
            for (int i = 0; i < days.length; i++) {
                Due.is("as(" + e + ", " + days[i] + ")", x.as(e, days[i]), due[e][i]);
            }
            for (int day : new int[] {Due.MIN, -1, 1000, Due.MAX}) {
                Due.is("as(" + e + ", " + day + ")", x.as(e, day), Due.BAD);
            }
        }
        // three turns on one day: the last one is what it was
        x.take(0, 1, 20);
        Due.is("shown", x.as(0, 999), 2);
        Due.change(x, 0, "o");
        Due.is("broken", x.as(0, 999), 3);
        Due.change(x, 0, "x");
        x.take(0, 1, 20);
        Due.is("shown anew", x.as(0, 999), 2);
        Due.is("the day ahead", x.as(0, 998), 1);
        ShownLibrary y = Due.with("wish x=x;");
        Due.is("a day that is to come", y.as(0, 999), 1);
        y.day(5);
        y.take(0, 0, 1);
        Due.is("wished on 0", y.as(0, 0), 1);
        Due.is("wished on 4", y.as(0, 4), 1);
        Due.is("shown on 5", y.as(0, 5), 2);
        Due.is("shown on 6, which is to come", y.as(0, 6), 2);
    }

    public static void main(String[] args) {
        aProofIsOfAWishedOrBrokenOne();
        justSo();
        oneAtATime();
        prove();
        step();
        twentySteps();
        undo();
        proof();
        show();
        fullOfShow();
        fullOfTake();
        fullOfRead();
        shownAnewComesBehindAll();
        stepOf();
        againAndAgain();
        leansOnWhatItUses();
        aShownOneAlone();
        grounds();
        of();
        sign();
        word();
        as();
        Due.finish();
    }
}
