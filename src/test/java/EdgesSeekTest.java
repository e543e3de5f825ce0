/** The edges of ways that are sought, sentence by sentence. */
public final class EdgesSeekTest {
    private static final int USE = 0, BACK = 1, PUT_IN = 2, PUT_OUT = 3;

    private static void seeks(ShownLibrary x, int e, int n, int s, int steps, int met) {
        String call = "seek(" + e + ", " + n + ", " + s + ", ";
        Due.is(call + "0)", x.seek(e, n, s, 0), steps);
        Due.is(call + "1)", x.seek(e, n, s, 1), met);
    }

    // ---- bounds

    private static void nStepsAtMost() {
        Due.says("SEEK (n 0 to 8, s 1 to 20): how many STEPS (what 0), TERMS met in all (1).");
        for (int far = 0; far <= 9; far++) {
            ShownLibrary x = Due.with("word a 1 x;wish x=" + "a".repeat(far) + "x;");
            for (int n = 0; n <= 8; n++) {
                boolean met = far <= n;
                seeks(x, 0, n, 20, met ? far : Due.NONE, met ? far + 1 : n + 1);
            }
            for (int n : new int[] {Due.MIN, -1, 9, 10, Due.MAX}) {
                seeks(x, 0, n, 20, Due.BAD, Due.BAD);
                Due.is("take(0, " + n + ", 20)", x.take(0, n, 20), Due.BAD);
            }
            Due.is("take(0, 8, 20)", x.take(0, 8, 20), far <= 8 ? far : Due.NONE);
            Due.is("of(0, 5)", x.of(0, 5), far <= 8 ? far : Due.NONE);
        }
    }

    private static void sSignsAtMost() {
        Due.says("those of more than s SIGNS, or more than n STEPS from the first, are left out");
        ShownLibrary x = Due.with("word a 1 x;wish x=aaaax;wish " + "a".repeat(18) + "x=y;");
        for (int s = 1; s <= 20; s++) {
            seeks(x, 0, 8, s, s >= 5 ? 4 : Due.NONE, Math.min(s, 5));
            // of 19 SIGNS: 18 to 11 on one side, 20 on the other; the first TERM itself is there, whatever s is
            seeks(x, 1, 8, s, Due.NONE, s == 20 ? 10 : s >= 18 ? 9 : 1);
        }
        for (int s : new int[] {Due.MIN, -1, 0, 21, 22, Due.MAX}) {
            seeks(x, 0, 8, s, Due.BAD, Due.BAD);
            Due.is("take(0, 8, " + s + ")", x.take(0, 8, s), Due.BAD);
        }
        Due.is("take(0, 8, 4)", x.take(0, 8, 4), Due.NONE);
        Due.is("take(0, 8, 5)", x.take(0, 8, 5), 4);
    }

    private static void neverThroughALongOne() {
        Due.says("those of more than s SIGNS, or more than n STEPS from the first, are left out");
        // from mxx to x by mmxxmxx alone
        ShownLibrary x = Due.with("taken mxx=mmxxmxx;taken mmxxmxx=x;wish mxx=x;");
        seeks(x, 2, 2, 7, 2, 3);
        seeks(x, 2, 8, 6, Due.NONE, 1);
        seeks(x, 2, 1, 7, Due.NONE, 2);
        // x may be mmxxmxx at each of three PLACES, too
        seeks(x, 2, 1, 20, Due.NONE, 5);
        // the first one is too long itself, the next one is not
        ShownLibrary y = Due.with("taken mmxxmxx=mxx;taken mxx=x;wish mmooo=moo;wish mmoomoo=o;");
        seeks(y, 3, 2, 3, 2, 3);
        seeks(y, 3, 2, 1, Due.NONE, 1);
        seeks(y, 2, 1, 3, 1, 2);
    }

    private static void theTermItself() {
        Due.says("it ends when the right TERM is met.");
        ShownLibrary x = Due.with("taken mxy=myx;wish mxy=mxy;wish mmxyz=mmxyz;wish x=x;");
        for (int e = 1; e <= 3; e++) {
            seeks(x, e, 0, 1, 0, 1);
            seeks(x, e, 8, 20, 0, 1);
        }
        Due.is("take(2, 0, 1)", x.take(2, 0, 1), 0);
        Due.is("it is shown", x.of(2, 0), 2);
        Due.is("of(2, 5)", x.of(2, 5), 0);
        Due.is("count(6)", x.count(6), 0);
    }

    // ---- the order

    private static void theOrderOfSteps() {
        Due.says("from each in turn USES, BACKS (SAYING by SAYING, USE ahead of BACK, PLACE by PLACE each), then PUT IN (PLACE by PLACE), then PUT OUT (WORD by WORD, PLACE by PLACE)");
        String ahead = "word b 1 mxo;word a 1 mxx;taken o=ao;taken o=bo;", left = "mmaobommxxmoo";
        String[] met = {"mmaaobommxxmoo", "mmaobaommxxmoo", "mmaobommxxmaoo", "mmaobommxxmoao", "mmobommxxmoo",
            "mmabobommxxmoo", "mmaobbommxxmoo", "mmaobommxxmboo", "mmaobommxxmobo", "mmaoommxxmoo",
            "mmmoobommxxmoo", "mmaomoommxxmoo", "mmaobommxxbo", "mmaobomaxmoo", "mmaobommxxao"};
        int[][] steps = {{USE, 0, 3}, {USE, 0, 5}, {USE, 0, 11}, {USE, 0, 12}, {BACK, 0, 2},
            {USE, 1, 3}, {USE, 1, 5}, {USE, 1, 11}, {USE, 1, 12}, {BACK, 1, 4},
            {PUT_IN, Due.NONE, 2}, {PUT_IN, Due.NONE, 4}, {PUT_OUT, 0, 10}, {PUT_OUT, 1, 7}, {PUT_OUT, 1, 10}};
        for (int i = 0; i < met.length; i++) {
            ShownLibrary x = Due.with(ahead + "wish " + left + "=" + met[i] + ";");
            seeks(x, 2, 1, 20, 1, 2 + i);
            Due.is("take(2, 1, 20)", x.take(2, 1, 20), 1);
            for (int what = 0; what < 3; what++) {
                Due.is("stepOf(2, 0, " + what + ") to " + met[i], x.stepOf(2, 0, what), steps[i][what]);
            }
        }
        seeks(Due.with(ahead + "wish " + left + "=x;"), 2, 1, 20, Due.NONE, 16);
    }

    private static void fromEachInTurn() {
        Due.says("on all TERMS that a STEP leads to, numbered as they are met: from each in turn");
        String[] met = {"o", "ao", "bo", "aao", "bao", "abo", "bbo", "aaao", "baao", "abao", "aabo", "bbao"};
        int[] steps = {0, 1, 1, 2, 2, 2, 2, 3, 3, 3, 3, 3};
        for (int i = 0; i < met.length; i++) {
            ShownLibrary x = Due.with("word a 1 x;word b 1 x;wish o=" + met[i] + ";");
            seeks(x, 0, 8, 20, steps[i], i + 1);
            seeks(x, 0, steps[i], met[i].length(), steps[i], i + 1);
        }
    }

    private static void eachTermOnce() {
        Due.says("on all TERMS that a STEP leads to, numbered as they are met");
        // mxy and myx lead to one another
        seeks(Due.with("taken mxy=myx;wish mxy=o;"), 1, 8, 20, Due.NONE, 2);
        seeks(Due.with("taken mxy=myx;wish mxx=o;"), 1, 8, 20, Due.NONE, 1);
        seeks(Due.with("taken mxy=myx;wish mmxyz=o;"), 1, 8, 20, Due.NONE, 4);
        seeks(Due.with("taken mxy=myx;taken mmxyz=mxmyz;wish mmxyz=o;"), 2, 8, 20, Due.NONE, 12);
        seeks(Due.with("taken x=x;wish mmxyz=o;"), 1, 8, 20, Due.NONE, 1);
        seeks(Due.with("wish mmxyz=o;"), 0, 8, 20, Due.NONE, 1);
    }

    private static void bySayingsThatMayBeUsed() {
        Due.says("-21 (USE, BACK) no such SAYING, neither TAKEN nor SHOWN, or the wish itself");
        ShownLibrary x = Due.with("word a 1 mxx;wish mxo=mox;wish mxo=mox;wish ax=x;taken mxx=x;wish aax=x;");
        seeks(x, 0, 8, 3, Due.NONE, 1);
        Due.is("1 is not to be used", x.take(0, 1, 3), Due.NONE);
        Due.is("2 is shown", x.take(2, 2, 20), 2);
        Due.is("4 by 2", x.take(4, 2, 3), 2);
        Due.is("leans(4, 0)", x.leans(4, 0), 4 + 8);
        Due.is("2 and 4 break", Due.change(x, 0, "o"), 2);
        seeks(x, 4, 2, 3, Due.NONE, 4);
    }

    // ---- of which ones

    private static void ofWishedOrBroken() {
        Due.says("SEEK for a WISHED or BROKEN SAYING");
        ShownLibrary x = Due.with("word a 1 mxx;taken mxx=x;wish ax=x;wish x=y;");
        seeks(x, 0, 1, 1, Due.STATE, Due.STATE);
        Due.is("take(0, ..)", x.take(0, 1, 1), Due.STATE);
        Due.is("take(1, ..)", x.take(1, 2, 3), 2);
        seeks(x, 1, 2, 3, Due.STATE, Due.STATE);
        Due.is("take(1, ..) again", x.take(1, 2, 3), Due.STATE);
        Due.is("it breaks", Due.change(x, 0, "o"), 1);
        seeks(x, 1, 1, 3, Due.NONE, 2);
        Due.change(x, 0, "mxx");
        seeks(x, 1, 2, 3, 2, 3);
        x.day(9);
        Due.is("take(1, ..) anew", x.take(1, 2, 3), 2);
        Due.is("it is shown", x.of(1, 0), 2);
        Due.is("on 9", x.as(1, 9), 2);
        Due.is("on 8", x.as(1, 8), 3);
        Due.is("no such one", x.seek(3, 1, 1, 0), Due.BAD);
        Due.is("no such one -1", x.seek(-1, 1, 1, 0), Due.BAD);
        for (int what : new int[] {Due.MIN, -1, 2, Due.MAX}) {
            Due.is("what " + what, x.seek(2, 1, 1, what), Due.BAD);
        }
    }

    private static void seekChangesNothing() {
        Due.says("SEEK (n 0 to 8, s 1 to 20): how many STEPS (what 0), TERMS met in all (1).");
        ShownLibrary x = Due.proving("taken mxy=myx;wish mxo=mox;", 1);
        Due.goes(x, USE, 0, 0, "mox");
        seeks(x, 1, 1, 3, 1, 2);
        Due.is("it is wished still", x.of(1, 0), 1);
        Due.is("count(6)", x.count(6), 0);
        Due.reads("in hand", Due.inHand(x), "mox");
        Due.is("show()", x.show(), 1);
    }

    private static void takeIsItsProof() {
        Due.says("What SEEK finds is its PROOF: it is SHOWN: how many STEPS.");
        ShownLibrary x = Due.with("word a 1 mxo;taken mxy=myx;wish aax=momox;wish mox=ax;");
        x.day(3);
        Due.is("take(1, ..)", x.take(1, 4, 9), 4);
        String t = "aax";
        ShownLibrary y = Due.proving("word a 1 mxo;taken mxy=myx;wish aax=momox;", 1);
        for (int i = 0; i < 4; i++) {
            int kind = x.stepOf(1, i, 0), which = x.stepOf(1, i, 1), place = x.stepOf(1, i, 2);
            Due.is("step " + i + " of " + t + " goes", y.step(kind, which, place) > 0 ? 1 : 0, 1);
            t = Due.inHand(y);
        }
        Due.reads("it comes to", t, "momox");
        Due.is("show()", y.show(), 4);
        Due.is("count(6)", x.count(6), 4);
        Due.is("leans(1, 0)", x.leans(1, 0), 1);
        Due.is("on 3", x.as(1, 3), 2);
        Due.is("on 2", x.as(1, 2), 1);
        Due.is("word(0, 3)", x.word(0, 3), 1);
    }

    private static void theProofInHand() {
        Due.says("(THE PROOF in hand is dropped, if it is of that one.)");
        ShownLibrary x = Due.with("taken mxy=myx;wish mxo=mox;wish mxx=mxx;wish x=o;");
        x.prove(1);
        Due.is("take of another one", x.take(2, 0, 20), 0);
        Due.is("it stays", x.proof(0), 1);
        Due.is("NONE", x.take(1, 0, 20), Due.NONE);
        Due.is("it stays still", x.proof(0), 1);
        Due.is("STATE", x.take(2, 0, 20), Due.STATE);
        Due.is("it stays even now", x.proof(0), 1);
        Due.is("take of it", x.take(1, 1, 20), 1);
        Due.is("dropped", x.proof(0), Due.STATE);
        x.prove(3);
        Due.is("another one is begun", x.proof(0), 3);
    }

    // ---- SPENT

    private static void the251stTerm() {
        Due.says("SPENT, when a 251st TERM would be met.");
        // counted apart: within 3 STEPS there are 250 TERMS of up to 14 SIGNS, 251 of up to 15
        String text = "word a 1 x;word b 1 x;word c 1 x;taken mxx=x;wish o=x;";
        ShownLibrary x = Due.with(text);
        seeks(x, 1, 3, 14, Due.NONE, 250);
        seeks(x, 1, 3, 15, Due.SPENT, Due.SPENT);
        seeks(x, 1, 3, 20, Due.SPENT, Due.SPENT);
        Due.is("take within 14", x.take(1, 3, 14), Due.NONE);
        Due.is("take within 15", x.take(1, 3, 15), Due.SPENT);
        Due.is("it is wished still", x.of(1, 0), 1);
        ShownLibrary y = Due.with("word a 1 x;word b 1 x;word c 1 x;wish abo=x;");
        seeks(y, 0, 4, 6, Due.NONE, 250);
        ShownLibrary z = Due.with("word a 1 x;taken mxx=x;wish aao=y;");
        seeks(z, 1, 3, 12, Due.SPENT, Due.SPENT);
        ShownLibrary v = Due.with("word a 1 mxx;word b 1 x;taken mmxyz=mxmyz;wish amaxy=o;");
        seeks(v, 1, 4, 9, Due.NONE, 249);
    }

    private static void metAheadOfTheEnd() {
        Due.says("it ends when the right TERM is met. SPENT, when a 251st TERM would be met.");
        ShownLibrary x = Due.with("taken x=mxx;taken x=mox;taken x=mxo;taken x=mmxxx;wish o=x;wish o=mmooo;wish o=moo;");
        seeks(x, 4, 8, 20, Due.SPENT, Due.SPENT);
        seeks(x, 6, 8, 20, 1, 2);
        seeks(x, 5, 8, 20, 1, 3);
        Due.is("a seek behind one that was spent", x.seek(4, 0, 20, 0), Due.NONE);
        Due.is("take(5, ..)", x.take(5, 8, 20), 1);
    }

    public static void main(String[] args) {
        nStepsAtMost();
        sSignsAtMost();
        neverThroughALongOne();
        theTermItself();
        theOrderOfSteps();
        fromEachInTurn();
        eachTermOnce();
        bySayingsThatMayBeUsed();
        ofWishedOrBroken();
        seekChangesNothing();
        takeIsItsProof();
        theProofInHand();
        the251stTerm();
        metAheadOfTheEnd();
        Due.finish();
    }
}
