/** Promises 12 to 18: prove, step, undo, proof, show, stepOf, leans. */
public final class ProofsTest {
    private static void provesOneAtATime() {
        ShownLibrary x = Due.with("taken mxy=myx;wish mxo=mox;wish x=x;");
        Due.is("prove(0) of a taken one", x.prove(0), Due.STATE);
        Due.is("prove(3)", x.prove(3), Due.BAD);
        Due.is("prove(-1)", x.prove(-1), Due.BAD);
        Due.is("proof(0)", x.proof(0), Due.STATE);
        Due.is("prove(1)", x.prove(1), 3);
        Due.is("prove(0) drops nothing", x.prove(0), Due.STATE);
        Due.is("proof(0)", x.proof(0), 1);
        Due.is("step", x.step(0, 0, 0), 3);
        Due.is("proof(1)", x.proof(1), 1);
        Due.is("prove(2) drops it", x.prove(2), 1);
        Due.is("proof(0) then", x.proof(0), 2);
        Due.is("proof(1) then", x.proof(1), 0);
        Due.is("show() of no steps", x.show(), 0);
        Due.is("none is in hand", x.proof(0), Due.STATE);
        Due.is("show() again", x.show(), Due.STATE);
        Due.is("prove(2) of a shown one", x.prove(2), Due.STATE);
        Due.is("of(2, 5)", x.of(2, 5), 0);
    }

    private static void refusals() {
        ShownLibrary x = Due.with("word a 1 mxx;word b 2 mxo;taken mxx=x;taken x=mxy;taken mxy=mmxyz;wish mmxymxy=o;wish o=o;");
        Due.is("step without a proof", x.step(0, 0, 0), Due.STATE);
        Due.is("bad kind goes first", x.step(4, 0, 0), Due.BAD);
        x.prove(3);
        Due.is("kind -1", x.step(-1, 0, 0), Due.BAD);
        Due.is("place -1", x.step(0, 99, -1), -20);
        Due.is("place 7", x.step(2, 0, 7), -20);
        Due.is("place max", x.step(3, 9, Integer.MAX_VALUE), -20);
        Due.is("no such saying", x.step(0, 5, 0), -21);
        Due.is("saying -1", x.step(1, -1, 0), -21);
        Due.is("a wished one", x.step(0, 4, 0), -21);
        Due.is("the wish itself", x.step(0, 3, 0), -21);
        Due.is("no such word", x.step(3, 2, 0), -21);
        Due.is("word -1", x.step(3, -1, 0), -21);
        Due.is("no word's sign there", x.step(2, 0, 0), -21);
        Due.is("no word's sign there, a name", x.step(2, 0, 2), -21);
        Due.is("mxy is no mxx", x.step(0, 0, 1), -22);
        Due.is("x is no mxx", x.step(0, 0, 2), -22);
        Due.is("put out: mxy is no mxx", x.step(3, 0, 1), -22);
        Due.is("put out: mxy is no mxo", x.step(3, 1, 1), -22);
        Due.is("y comes of nothing", x.step(0, 1, 0), -23);
        Due.is("z comes of nothing", x.step(0, 2, 0), -23);
        Due.is("proof(1): none went", x.proof(1), 0);
        Due.is("mm is one and the same", x.step(0, 0, 0), 3);
        Due.is("undo()", x.undo(), 0);
        Due.is("undo() of none", x.undo(), Due.NONE);
        Due.is("put out", x.step(3, 0, 0), 4);
        Due.is("proof(10)", x.proof(10), 0);
        Due.is("proof(11)", x.proof(11), 12);
        Due.is("put in: which is not looked at", x.step(2, 77, 0), 7);
        Due.is("proof(2)", x.proof(2), 7);
    }

    private static void wordsWithNothingForAName() {
        ShownLibrary x = Due.with("word a 1 o;word b 2 mxo;word c 2 y;wish mxo=o;wish ax=o;wish cxmyy=myy;");
        x.prove(0);
        Due.is("put out of a: x is nothing", x.step(3, 0, 2), -23);
        Due.is("put out of b: y is nothing", x.step(3, 1, 0), -23);
        Due.is("put out of c: x is nothing", x.step(3, 2, 0), -23);
        x.prove(1);
        Due.is("put in of a", x.step(2, 0, 0), 1);
        Due.is("it is o", x.proof(10), 14);
        Due.is("show()", x.show(), 1);
        x.prove(2);
        Due.is("put in of c", x.step(2, 0, 0), 3);
        Due.is("proof(3)", x.proof(3), 1);
    }

    private static void twentySigns() {
        ShownLibrary x = Due.with("taken mox=o;taken x=mxo;taken x=mxmxx;wish x=o;wish mmmmmmmmmxxxxxxxxxx=o;");
        x.prove(3);
        for (int i = 1; i <= 9; i++) {
            Due.is("grows to " + (1 + 2 * i), x.step(0, 1, 0), 1 + 2 * i);
        }
        Due.is("21 signs", x.step(0, 1, 0), -24);
        Due.is("-23 goes ahead of -24", x.step(1, 0, 18), -23);
        Due.is("19 stay", x.proof(2), 19);
        Due.is("proof(28)", x.proof(28), 14);
        Due.is("proof(29)", x.proof(29), Due.BAD);
        ShownLibrary y = Due.with("word a 1 x;taken x=ax;wish ax=o;");
        y.prove(1);
        for (int i = 3; i <= 20; i++) {
            Due.is("put out of a to " + i, y.step(3, 0, 0), i);
        }
        Due.is("put out to 21", y.step(3, 0, 0), -24);
        Due.is("use to 21", y.step(0, 0, 0), -24);
    }

    private static void twentySteps() {
        ShownLibrary x = Due.with("taken mxy=myx;wish mxy=mxy;");
        x.prove(1);
        for (int i = 0; i < 20; i++) {
            Due.is("step " + i, x.step(i % 2, 0, 0), 3);
        }
        Due.is("21st", x.step(0, 0, 0), Due.FULL);
        Due.is("21st, a bad kind", x.step(9, 0, 0), Due.BAD);
        Due.is("21st, no such place", x.step(0, 0, 9), Due.FULL);
        Due.is("undo()", x.undo(), 19);
        Due.is("not at the right term", x.show(), Due.STATE);
        Due.is("again", x.step(1, 0, 0), 3);
        Due.is("show()", x.show(), 20);
        Due.is("count(6)", x.count(6), 20);
        Due.is("undo() when none is in hand", x.undo(), Due.NONE);
    }

    private static void fitsWithin() {
        ShownLibrary x = Due.with("taken mxmyx=mmyxx;wish mmxomzmxo=o;");
        x.prove(1);
        Due.is("x is mxo both times", x.step(0, 0, 0), 9);
        int[] due = {12, 12, 25, 12, 23, 14, 12, 23, 14};
        for (int i = 0; i < due.length; i++) {
            Due.is("proof(" + (10 + i) + ")", x.proof(10 + i), due[i]);
        }
        Due.is("back", x.step(1, 0, 0), 9);
        Due.is("proof(11)", x.proof(11), 12);
        Due.is("proof(12)", x.proof(12), 23);
        ShownLibrary y = Due.with("taken mox=x;wish mmoyz=myz;");
        y.prove(1);
        Due.is("within a term", y.step(0, 0, 1), 3);
        Due.is("it is the right one", y.proof(3), 1);
        Due.is("not at a place that is no match", y.step(0, 0, 0), -22);
    }

    private static void proofAsks() {
        ShownLibrary x = Due.with("wish mxy=myx;");
        Due.is("proof(-1)", x.proof(-1), Due.BAD);
        Due.is("proof(4)", x.proof(4), Due.BAD);
        Due.is("proof(9)", x.proof(9), Due.BAD);
        Due.is("proof(3)", x.proof(3), Due.STATE);
        Due.is("proof(10)", x.proof(10), Due.BAD);
        Due.is("proof(max)", x.proof(Integer.MAX_VALUE), Due.BAD);
        Due.is("proof(min)", x.proof(Integer.MIN_VALUE), Due.BAD);
        x.prove(0);
        Due.is("proof(3) in hand", x.proof(3), 0);
        Due.is("proof(4) in hand", x.proof(4), Due.BAD);
        Due.is("proof(9) in hand", x.proof(9), Due.BAD);
        Due.is("proof(12) in hand", x.proof(12), 24);
        Due.is("proof(13) in hand", x.proof(13), Due.BAD);
        Due.is("proof(max) in hand", x.proof(Integer.MAX_VALUE), Due.BAD);
    }

    /** 200 steps of all proofs; what is shown anew counts again. */
    private static void twoHundred() {
        ShownLibrary x = Due.with("word a 1 x;taken mxy=myx;wish ax=ax;wish amxy=myx;wish mxy=mxy;wish mxo=mox;");
        for (int round = 0; round < 5; round++) {
            Due.is("prove", x.prove(2), 4);
            for (int i = 0; i < 19; i++) {
                x.step(0, 0, 1);
            }
            Due.is("put in", x.step(2, 0, 0), 3);
            Due.is("show", x.show(), 20);
            Due.is("count(6)", x.count(6), 40 * round + 20);
            Due.is("change", Due.change(x, 0, "o"), 1);
            Due.is("broken at", x.of(2, 6), 20);
            Due.is("back", Due.change(x, 0, "x"), 0);
            Due.is("prove 1", x.prove(1), 2);
            for (int i = 0; i < 20; i++) {
                x.step(i % 2 == 0 ? 2 : 3, 0, 0);
            }
            Due.is("show 1", x.show(), 20);
            Due.is("change 1", Due.change(x, 0, "mxx"), 0);
            Due.is("broken by o", Due.change(x, 0, "o"), 1);
            Due.is("broken at 1", x.of(1, 6), 1);
            Due.change(x, 0, "x");
        }
        Due.is("count(6) at the end", x.count(6), 200);
        Due.is("take of one more", x.take(1, 0, 20), 0);
        x.prove(3);
        x.step(0, 0, 0);
        x.step(0, 0, 0);
        Due.is("show() of two more", x.show(), Due.FULL);
        Due.is("it stays in hand", x.proof(1), 2);
        Due.is("it is wished still", x.of(3, 0), 1);
        Due.is("take() of one more", x.take(4, 1, 3), Due.FULL);
        Due.is("take() of more", x.take(2, 8, 20), Due.FULL);
        Due.is("and broken still", x.of(2, 0), 3);
        Due.sheet(x, 0, 0, 0, 0, 0, 0, 0, 0);
        Due.is("read() of two more", x.read(3, 0, 0, 0, 2), Due.FULL);
        Due.is("read() that does not come to it", x.read(3, 0, 0, 0, 1), 0);
        Due.is("read() of none", x.read(3, 0, 0, 0, 0), 1);
        Due.is("the proof in hand is dropped", x.proof(0), Due.STATE);
        Due.is("stepOf of the old row", x.stepOf(2, 19, 0), 2);
        Due.is("stepOf of the new one", x.stepOf(1, 0, 0), Due.BAD);
    }

    private static void stepsTold() {
        ShownLibrary x = Due.with("word a 1 mxx;taken mxy=myx;taken mmxyz=mxmyz;wish amxy=mmyxmxy;wish mxx=ax;wish x=y;");
        x.prove(2);
        x.step(2, 5, 0);
        x.step(1, 0, 1);
        Due.is("show()", x.show(), 2);
        Due.is("stepOf(2, 0, 0)", x.stepOf(2, 0, 0), 2);
        Due.is("stepOf(2, 0, 1)", x.stepOf(2, 0, 1), Due.NONE);
        Due.is("stepOf(2, 0, 2)", x.stepOf(2, 0, 2), 0);
        Due.is("stepOf(2, 1, 0)", x.stepOf(2, 1, 0), 1);
        Due.is("stepOf(2, 1, 1)", x.stepOf(2, 1, 1), 0);
        Due.is("stepOf(2, 1, 2)", x.stepOf(2, 1, 2), 1);
        Due.is("stepOf(2, 2, 0)", x.stepOf(2, 2, 0), Due.BAD);
        Due.is("stepOf(2, -1, 0)", x.stepOf(2, -1, 0), Due.BAD);
        Due.is("stepOf(2, 0, 3)", x.stepOf(2, 0, 3), Due.BAD);
        Due.is("stepOf(2, 0, -1)", x.stepOf(2, 0, -1), Due.BAD);
        Due.is("stepOf(5, 0, 0)", x.stepOf(5, 0, 0), Due.BAD);
        Due.is("stepOf(4, 0, 0)", x.stepOf(4, 0, 0), Due.NONE);
        Due.is("stepOf(0, 0, 0)", x.stepOf(0, 0, 0), Due.NONE);
        x.prove(3);
        x.step(3, 0, 0);
        Due.is("show() of a put out", x.show(), 1);
        Due.is("stepOf(3, 0, 1)", x.stepOf(3, 0, 1), 0);
        Due.is("change", Due.change(x, 0, "x"), 2);
        Due.is("stepOf of a broken one", x.stepOf(2, 1, 0), 1);
    }

    private static void leaning() {
        ShownLibrary x = Due.with("taken mxo=x;taken mxy=myx;taken x=x;wish mox=x;wish momox=x;wish mxmoy=mxy;wish x=mxo;");
        Due.is("nothing leans", x.leans(0, 2), 0);
        x.prove(3);
        x.step(0, 1, 0);
        x.step(0, 0, 0);
        Due.is("show 3", x.show(), 2);
        x.prove(4);
        x.step(0, 3, 0);
        x.step(0, 3, 0);
        Due.is("show 4", x.show(), 2);
        x.prove(5);
        x.step(0, 3, 2);
        x.step(0, 2, 0);
        Due.is("show 5", x.show(), 2);
        x.prove(6);
        x.step(1, 0, 0);
        Due.is("show 6", x.show(), 1);
        Due.is("leans(3, 0)", x.leans(3, 0), 3);
        Due.is("leans(4, 0)", x.leans(4, 0), 8 + 3);
        Due.is("leans(5, 0)", x.leans(5, 0), 8 + 4 + 3);
        Due.is("leans(6, 0): back, too", x.leans(6, 0), 1);
        Due.is("leans(4, 1)", x.leans(4, 1), 3);
        Due.is("leans(5, 1)", x.leans(5, 1), 7);
        Due.is("leans(0, 0)", x.leans(0, 0), 0);
        Due.is("leans(0, 2)", x.leans(0, 2), 8 + 16 + 32 + 64);
        Due.is("leans(3, 2)", x.leans(3, 2), 16 + 32);
        Due.is("of(5, 7)", x.of(5, 7), 4);
        Due.is("of(0, 8)", x.of(0, 8), 4);
        Due.is("leans(0, 3)", x.leans(0, 3), Due.BAD);
        Due.is("leans(0, -1)", x.leans(0, -1), Due.BAD);
        Due.is("leans(7, 0)", x.leans(7, 0), Due.BAD);
    }

    private static void leaningOnTheFirst() {
        ShownLibrary x = Due.with("wish mox=x;taken mxo=x;taken mxy=myx;wish momox=x;");
        Due.is("0 by 2 and 1", x.take(0, 2, 9), 2);
        Due.is("3 by 0", x.take(3, 2, 9), 2);
        Due.is("leans(3, 0)", x.leans(3, 0), 1 + 2 + 4);
        Due.is("leans(1, 2)", x.leans(1, 2), 1 + 8);
        Due.is("leans(0, 2)", x.leans(0, 2), 8);
    }

    public static void main(String[] args) {
        provesOneAtATime();
        refusals();
        wordsWithNothingForAName();
        twentySigns();
        twentySteps();
        fitsWithin();
        proofAsks();
        twoHundred();
        stepsTold();
        leaning();
        leaningOnTheFirst();
        Due.finish();
    }
}
