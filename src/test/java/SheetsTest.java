/** Promises 28 to 31: sheet, lay, read, count. */
public final class SheetsTest {
    private static void sheetsAndCells() {
        ShownLibrary x = new ShownLibrary();
        Due.is("sheet(4, 0, 1)", x.sheet(4, 0, 1), Due.BAD);
        Due.is("sheet(-1, 0, 1)", x.sheet(-1, 0, 1), Due.BAD);
        Due.is("sheet(0, 3, 1)", x.sheet(0, 3, 1), Due.BAD);
        Due.is("sheet(0, -1, 1)", x.sheet(0, -1, 1), Due.BAD);
        Due.is("sheet(0, 0, 91)", x.sheet(0, 0, 91), Due.BAD);
        Due.is("sheet(0, 0, -1)", x.sheet(0, 0, -1), -14);
        Due.is("sheet(0, 0, min)", x.sheet(0, 0, Integer.MIN_VALUE), -14);
        Due.is("sheet(0, 3, -1)", x.sheet(0, 3, -1), Due.BAD);
        Due.is("count(10) of nothing", x.count(10), Due.NONE);
        Due.is("lay of nothing", x.lay(0, 0, 1), -11);
        Due.is("lay of nothing, cell -1", x.lay(0, -1, 1), -11);
        Due.is("lay(4, 0, 0)", x.lay(4, 0, 0), Due.BAD);
        Due.is("lay(-1, 0, 0)", x.lay(-1, 0, 0), Due.BAD);
        Due.is("sheet(0, 2, 90)", x.sheet(0, 2, 90), 1);
        Due.is("count(10)", x.count(10), 90);
        Due.is("lay(0, 89, 1)", x.lay(0, 89, 1), 1);
        Due.is("lay(0, 90, 1)", x.lay(0, 90, 1), -12);
        Due.is("lay(0, -1, 1)", x.lay(0, -1, 1), -12);
        Due.is("sheet(0, 0, -5) changes nothing", x.sheet(0, 0, -5), -14);
        Due.is("count(10) still", x.count(10), 90);
        Due.is("sheet(0, 1, 0)", x.sheet(0, 1, 0), 1);
        Due.is("count(10) of none", x.count(10), 0);
        Due.is("lay(0, 0, 1)", x.lay(0, 0, 1), -12);
    }

    private static void reading() {
        ShownLibrary x = Due.with("word a 1 mxx;taken mxy=myx;wish mxo=mox;wish ax=mxx;wish mxx=ax;wish o=x;");
        Due.is("nothing", x.read(1, 0, 0, 0, 1), -11);
        Due.is("nothing, no steps", x.read(1, 0, 0, 0, 0), -11);
        Due.sheet(x, 0, 0, 7, 0, 0, 0);
        Due.is("e", x.read(5, 0, 0, 1, 1), Due.BAD);
        Due.is("e -1", x.read(-1, 0, 0, 1, 1), Due.BAD);
        Due.is("k", x.read(1, 4, 0, 1, 1), Due.BAD);
        Due.is("lane", x.read(1, 0, 3, 1, 1), Due.BAD);
        Due.is("lane -1", x.read(1, 0, -1, 1, 1), Due.BAD);
        Due.is("n -1", x.read(1, 0, 0, 1, -1), Due.BAD);
        Due.is("n 21", x.read(1, 0, 0, 1, 21), Due.BAD);
        Due.is("a taken one, n 21", x.read(0, 0, 0, 1, 21), Due.BAD);
        Due.is("a taken one", x.read(0, 3, 0, 1, 1), Due.STATE);
        Due.is("another lane", x.read(1, 0, 1, 99, 1), -13);
        Due.is("another lane, no steps", x.read(1, 0, 2, 0, 0), -13);
        Due.is("cell -1", x.read(1, 0, 0, -1, 1), -12);
        Due.is("cell 4", x.read(1, 0, 0, 2, 1), -12);
        Due.is("cell max", x.read(1, 0, 0, Integer.MAX_VALUE, 1), -12);
        Due.is("cell max, 20 steps", x.read(1, 0, 0, Integer.MAX_VALUE, 20), -12);
        Due.is("cell min", x.read(1, 0, 0, Integer.MIN_VALUE, 1), -12);
        Due.is("an index goes ahead of all steps", x.read(1, 0, 0, 0, 2), -12);
        Due.is("no steps, no cell is read", x.read(1, 0, 0, -7, 0), 0);
        Due.is("no such kind", x.read(1, 0, 0, 0, 1), -100);
        x.prove(1);
        Due.is("it goes", x.read(1, 0, 0, 1, 1), 1);
        Due.is("it is shown", x.of(1, 0), 2);
        Due.is("the proof in hand is dropped", x.proof(0), Due.STATE);
        Due.is("stepOf", x.stepOf(1, 0, 1), 0);
        Due.is("again", x.read(1, 0, 0, 1, 1), Due.STATE);
        x.prove(4);
        Due.sheet(x, 1, 1, 2, 9, 0, 0, 0, 0, 3, 0, 0);
        Due.is("step 2 does not come to it", x.read(2, 1, 1, 0, 3), 0);
        Due.is("the first two do", x.read(2, 1, 1, 0, 2), 1);
        Due.is("which of a put in", x.stepOf(2, 0, 1), Due.NONE);
        Due.is("the proof of another one stays", x.proof(0), 4);
        Due.is("step 0: no word there", x.read(3, 1, 1, 0, 3), -100);
        Due.is("step 0 goes, then put out", x.read(3, 1, 1, 3, 2), 1);
        Due.sheet(x, 2, 2, 1, 0, 0, 0, 0, 0, 0, 0, 9, 3, 0, 0);
        Due.tell(x, "wish mxx=ao;");
        Due.is("step 2: no such place", x.read(5, 2, 2, 0, 4), -102);
        Due.is("nothing is shown", x.of(5, 0), 1);
        Due.is("count(6)", x.count(6), 1 + 2 + 2);
    }

    /** What a cell keeps: the lowest bits, with their sign. */
    private static void lowestBits() {
        ShownLibrary x = Due.with("taken mxy=myx;wish mxo=mox;wish moo=moo;wish mxo=mox;wish mxo=mox;wish mxo=mox;");
        Due.sheet(x, 0, 0, 256, 512, -256);
        Due.is("bytes", x.read(1, 0, 0, 0, 1), 1);
        Due.sheet(x, 0, 1, 65536, 131072, -65536);
        Due.is("shorts", x.read(3, 0, 1, 0, 1), 1);
        Due.sheet(x, 0, 1, 256, 0, 0);
        Due.is("a short of 256 is no kind", x.read(4, 0, 1, 0, 1), -100);
        Due.sheet(x, 0, 2, 65536, 0, 0);
        Due.is("an int of 65536 is no kind", x.read(4, 0, 2, 0, 1), -100);
        Due.sheet(x, 0, 0, 255, 0, 0);
        Due.is("a byte of 255 is -1", x.read(4, 0, 0, 0, 1), -100);
        Due.sheet(x, 0, 2, 0, 0, 0);
        Due.is("ints", x.read(4, 0, 2, 0, 1), 1);
        x.lay(0, 0, 1);
        x.sheet(0, 2, 3);
        Due.is("a new sheet has cells of 0", x.read(5, 0, 2, 0, 1), 1);
        Due.is("it was a use", x.stepOf(5, 0, 0), 0);
        Due.is("of(2, 0)", x.of(2, 0), 1);
    }

    /** A kind that is none goes nowhere, whatever the rest would say. */
    private static void noKind() {
        ShownLibrary x = Due.with("word a 1 mxx;wish mxx=ax;wish ax=mxx;");
        for (int kind : new int[] {-1, 4, 127, -128}) {
            Due.sheet(x, 0, 0, kind, 0, 0);
            Due.is("kind " + kind, x.read(0, 0, 0, 0, 1), -100);
            Due.is("kind " + kind + " of 1", x.read(1, 0, 0, 0, 1), -100);
        }
        Due.sheet(x, 0, 0, 2, 0, 0, 3, 0, 0, 5, 0, 0);
        Due.is("the third", x.read(1, 0, 0, 0, 3), -102);
    }

    private static void twentyStepsOfASheet() {
        ShownLibrary x = Due.with("taken mxy=myx;wish mxy=mxy;");
        Due.is("60 cells", x.sheet(3, 0, 60), 1);
        Due.is("20 steps", x.read(1, 3, 0, 0, 20), 1);
        Due.is("of(1, 5)", x.of(1, 5), 20);
        Due.is("count(10) is of sheet 0", x.count(10), Due.NONE);
    }

    private static void counts() {
        ShownLibrary x = Due.with("word a 1 mxx;taken mxx=x;wish ax=x;wish x=y;wish aax=x;");
        x.hand(3);
        x.day(44);
        x.take(1, 2, 20);
        x.take(3, 2, 20);
        x.feed(0);
        int[] due = {4, 1, 1, 2, 0, 1, 4, 3, 44, 8, Due.NONE};
        for (int what = 0; what < due.length; what++) {
            Due.is("count(" + what + ")", x.count(what), due[what]);
        }
        x.end(0);
        Due.is("change", Due.change(x, 0, "o"), 2);
        Due.is("count(3)", x.count(3), 0);
        Due.is("count(4)", x.count(4), 2);
        Due.is("count(6) counts old ones", x.count(6), 4);
        Due.is("count(11)", x.count(11), Due.BAD);
        Due.is("count(-1)", x.count(-1), Due.BAD);
    }

    public static void main(String[] args) {
        sheetsAndCells();
        reading();
        lowestBits();
        noKind();
        twentyStepsOfASheet();
        counts();
        Due.finish();
    }
}
