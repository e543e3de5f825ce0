/** The edges of sheets, of what is laid on them and read of them, and of counts, sentence by sentence. */
public final class EdgesSheetsTest {
    private static final int BYTES = 0, SHORTS = 1, INTS = 2;
    private static final int[] VALUES = {0, 1, 2, 3, 4, -1, -2, 127, 128, 129, -128, -129, 254, 255, 256, 257, 258, -255, -256, -257,
        32767, 32768, 65534, 65535, 65536, 65537, -32768, -32769, -65535, -65536, -65537, 1 << 24, (1 << 24) + 1, Due.MIN, Due.MIN + 1,
        Due.MAX, Due.MAX - 1};

    private static int lowest(int lane, int v) {
        return lane == BYTES ? (byte) v : lane == SHORTS ? (short) v : v;
    }

    // ---- sheet, lay

    private static void sheetsZeroToThree() {
        Due.says("SHEETS 0 to 3 are rows of BYTES (lane 0), SHORTS (1), INTS (2) with 0 to 90 CELLS, or nothing (at first).");
        ShownLibrary x = Due.with("wish x=x;wish x=x;");
        for (int k = 0; k <= 3; k++) {
            Due.is("nothing: lay(" + k + ", 0, 0)", x.lay(k, 0, 0), -11);
            Due.is("nothing: read(0, " + k + ", ..)", x.read(0, k, 0, 0, 0), -11);
        }
        Due.is("nothing: count(10)", x.count(10), Due.NONE);
        for (int k = 0; k <= 3; k++) {
            for (int lane = BYTES; lane <= INTS; lane++) {
                for (int n : new int[] {0, 1, 89, 90}) {
                    Due.is("sheet(" + k + ", " + lane + ", " + n + ")", x.sheet(k, lane, n), 1);
                    Due.is("its last cell", x.lay(k, n - 1, 7), n == 0 ? -12 : 1);
                    Due.is("behind it", x.lay(k, n, 7), -12);
                    Due.is("count(10)", x.count(10), k == 0 ? n : 90);
                }
            }
        }
    }

    private static void sheet() {
        Due.says("A SHEET is a new row of CELLS 0: 1. BAD: also n above 90; -10 - 4.");
        ShownLibrary x = new ShownLibrary();
        for (int k : new int[] {Due.MIN, -1, 4, Due.MAX}) {
            for (int n : new int[] {-1, 0, 90, 91}) {
                Due.is("sheet(" + k + ", 0, " + n + ")", x.sheet(k, 0, n), Due.BAD);
            }
        }
        for (int lane : new int[] {Due.MIN, -1, 3, Due.MAX}) {
            for (int n : new int[] {-1, 0, 90, 91}) {
                Due.is("sheet(0, " + lane + ", " + n + ")", x.sheet(0, lane, n), Due.BAD);
            }
        }
        for (int n : new int[] {91, 92, 1000, Due.MAX}) {
            Due.is("sheet(0, 0, " + n + ")", x.sheet(0, 0, n), Due.BAD);
        }
        for (int n : new int[] {-1, -2, -91, Due.MIN}) {
            Due.is("sheet(0, 0, " + n + ")", x.sheet(0, 0, n), -14);
        }
        Due.is("nothing still", x.count(10), Due.NONE);
        Due.is("a sheet of no cells is not nothing", x.sheet(0, 0, 0), 1);
        Due.is("count(10) of none", x.count(10), 0);
        Due.is("lay on it", x.lay(0, 0, 0), -12);
        x.sheet(0, 0, 5);
        Due.is("below 0 again", x.sheet(0, 0, -1), -14);
        Due.is("the old one stays", x.count(10), 5);
        Due.is("above 90 again", x.sheet(0, 0, 91), Due.BAD);
        Due.is("the old one stays still", x.count(10), 5);
    }

    private static void aNewRowOfZeros() {
        Due.says("A SHEET is a new row of CELLS 0: 1.");
        for (int lane = BYTES; lane <= INTS; lane++) {
            ShownLibrary x = Due.with("taken mxy=myx;wish mxo=mox;wish mxy=myx;");
            x.sheet(2, lane, 90);
            for (int i = 0; i < 90; i++) {
                x.lay(2, i, 9);
            }
            Due.is("all of 9", x.read(1, 2, lane, 87, 1), -100);
            x.sheet(2, lane, 3);
            Due.is("a USE of 0 at 0", x.read(1, 2, lane, 0, 1), 1);
            x.sheet(2, lane, 90);
            Due.is("no old ones come back", x.read(2, 2, lane, 87, 1), 1);
        }
    }

    private static void lay() {
        Due.says("CELL i of a SHEET becomes v (its lowest bits): 1. BAD: k; -10 less the FAULT: NULL, INDEX.");
        ShownLibrary x = new ShownLibrary();
        x.sheet(1, SHORTS, 4);
        for (int k : new int[] {Due.MIN, -1, 4, 5, Due.MAX}) {
            Due.is("lay(" + k + ", 0, 0)", x.lay(k, 0, 0), Due.BAD);
            Due.is("lay(" + k + ", -1, 0)", x.lay(k, -1, 0), Due.BAD);
        }
        for (int i : new int[] {Due.MIN, -1, 4, 5, 89, 90, Due.MAX}) {
            Due.is("lay(1, " + i + ", 0)", x.lay(1, i, 0), -12);
            Due.is("lay(0, " + i + ", 0)", x.lay(0, i, 0), -11);
        }
        for (int i = 0; i < 4; i++) {
            for (int v : VALUES) {
                Due.is("lay(1, " + i + ", " + v + ")", x.lay(1, i, v), 1);
            }
        }
    }

    private static void itsLowestBits() {
        Due.says("CELL i of a SHEET becomes v (its lowest bits)");
        for (int lane = BYTES; lane <= INTS; lane++) {
            for (int v : VALUES) {
                int kept = lowest(lane, v);
                String text = "word a 1 x;taken mxy=myx;taken mmxyz=o;wish mxy=myx;", call = "lane " + lane + ", " + v + " as ";
                ShownLibrary x = Due.with(text);
                Due.sheet(x, 0, lane, v, 0, 0);
                Due.is(call + "a kind", x.read(2, 0, lane, 0, 1), kept == 0 || kept == 1 ? 1 : kept == 3 ? 0 : -100);
                ShownLibrary y = Due.with(text);
                Due.sheet(y, 0, lane, 0, v, 0);
                Due.is(call + "of which", y.read(2, 0, lane, 0, 1), kept == 0 ? 1 : -100);
                ShownLibrary z = Due.with(text);
                Due.sheet(z, 0, lane, 3, 0, v);
                Due.is(call + "a place", z.read(2, 0, lane, 0, 1), kept >= 0 && kept <= 2 ? 0 : -100);
            }
        }
    }

    // ---- read

    private static void readFaults() {
        Due.says("A FAULT is what the machine finds: 1 NULL (nothing), 2 INDEX, 3 CAST (another lane), 4 SIZE (below 0).");
        ShownLibrary x = Due.with("taken mxy=myx;wish mxo=mox;");
        for (int lane = BYTES; lane <= INTS; lane++) {
            Due.is("nothing as of lane " + lane, x.read(1, 3, lane, 0, 1), -11);
            Due.is("nothing, no steps", x.read(1, 3, lane, 0, 0), -11);
            Due.is("nothing, cell -1", x.read(1, 3, lane, -1, 1), -11);
            x.sheet(2, lane, 3);
            for (int as = BYTES; as <= INTS; as++) {
                Due.is("lane " + lane + " as of " + as, x.read(1, 2, as, 3, 1), lane == as ? -12 : -13);
                Due.is("lane " + lane + " as of " + as + ", no steps", x.read(1, 2, as, 3, 0), lane == as ? 0 : -13);
            }
        }
        Due.is("a sheet of no cells", x.sheet(1, BYTES, 0), 1);
        Due.is("of another lane", x.read(1, 1, SHORTS, 0, 1), -13);
        Due.is("no cell is there", x.read(1, 1, BYTES, 0, 1), -12);
        Due.is("and none is wanted", x.read(1, 1, BYTES, 0, 0), 0);
    }

    private static void indexOfAnyCell() {
        Due.says("-10 less the FAULT: NULL, CAST, INDEX of any CELL, ahead of all STEPS");
        ShownLibrary x = Due.with("taken mxy=myx;wish mxo=moy;");
        x.sheet(0, INTS, 90);
        for (int n = 1; n <= 20; n++) {
            int last = 90 - 3 * n;
            // mxo becomes mox and back again, never moy
            for (int f : new int[] {0, 1, last - 1, last}) {
                Due.is("read(1, 0, 2, " + f + ", " + n + ")", x.read(1, 0, INTS, f, n), 0);
            }
            for (int f : new int[] {Due.MIN, -3 * n - 1, -3 * n, -1, last + 1, last + 2, last + 3, 89, 90, Due.MAX - 60, Due.MAX}) {
                if (f < 0 || f > last) {
                    Due.is("read(1, 0, 2, " + f + ", " + n + ")", x.read(1, 0, INTS, f, n), -12);
                }
            }
        }
        // the first STEP does not go, but there is no CELL for the last number of the second one
        ShownLibrary y = Due.with("taken mxy=myx;wish mxo=mox;");
        Due.sheet(y, 0, BYTES, 9, 0, 0, 0, 0);
        Due.is("ahead of all steps", y.read(1, 0, BYTES, 0, 2), -12);
        Due.is("the first one alone", y.read(1, 0, BYTES, 0, 1), -100);
        Due.is("from cell 2 on", y.read(1, 0, BYTES, 2, 1), 1);
    }

    private static void whatReadWants() {
        Due.says("n (0 to 20) STEPS (kind, of which, PLACE) of a PROOF of a SAYING are read of a SHEET taken as of a lane, from CELL f on: it is SHOWN: 1. BAD: e, k, lane, n; STATE: it is TAKEN, SHOWN");
        ShownLibrary x = Due.with("taken mxy=myx;wish mxo=mox;wish x=x;");
        x.sheet(0, BYTES, 60);
        for (int bad : new int[] {Due.MIN, -1, 24, Due.MAX}) {
            Due.is("e " + bad, x.read(bad, 0, 0, 0, 1), Due.BAD);
            Due.is("k " + bad, x.read(1, bad, 0, 0, 1), Due.BAD);
            Due.is("lane " + bad, x.read(1, 0, bad, 0, 1), Due.BAD);
            Due.is("n " + bad, x.read(1, 0, 0, 0, bad), Due.BAD);
            Due.is("taken, k " + bad, x.read(0, bad, 0, 0, 1), Due.BAD);
            Due.is("taken, lane " + bad, x.read(0, 0, bad, 0, 1), Due.BAD);
            Due.is("taken, n " + bad, x.read(0, 0, 0, 0, bad), Due.BAD);
        }
        Due.is("e 3", x.read(3, 0, 0, 0, 1), Due.BAD);
        Due.is("k 4", x.read(1, 4, 0, 0, 1), Due.BAD);
        Due.is("lane 3", x.read(1, 0, 3, 0, 1), Due.BAD);
        Due.is("n 21", x.read(1, 0, 0, 0, 21), Due.BAD);
        Due.is("a taken one", x.read(0, 0, 0, 0, 1), Due.STATE);
        Due.is("a taken one, of nothing", x.read(0, 1, 0, 0, 1), Due.STATE);
        Due.is("20 steps", x.read(1, 0, 0, 0, 20), 0);
        Due.is("19 steps", x.read(1, 0, 0, 0, 19), 1);
        Due.is("a shown one", x.read(1, 0, 0, 0, 19), Due.STATE);
        Due.is("a shown one, of nothing", x.read(1, 1, 2, 99, 1), Due.STATE);
        Due.is("of(1, 5)", x.of(1, 5), 19);
        Due.is("no steps", x.read(2, 0, 0, 60, 0), 1);
        Due.is("of(2, 5)", x.of(2, 5), 0);
    }

    private static void aBrokenOne() {
        Due.says("STATE: it is TAKEN, SHOWN");
        ShownLibrary x = Due.with("word a 1 x;wish ax=x;");
        Due.sheet(x, 0, BYTES, 2, 0, 0);
        Due.is("a wished one", x.read(0, 0, BYTES, 0, 1), 1);
        Due.change(x, 0, "o");
        Due.is("a broken one that does not come to it", x.read(0, 0, BYTES, 0, 1), 0);
        Due.is("it is broken still", x.of(0, 0), 3);
        Due.is("at the same step", x.of(0, 6), 1);
        Due.change(x, 0, "x");
        x.day(2);
        Due.is("a broken one", x.read(0, 0, BYTES, 0, 1), 1);
        Due.is("it is shown", x.of(0, 0), 2);
        Due.is("on 2", x.as(0, 2), 2);
        Due.is("on 1", x.as(0, 1), 3);
        Due.is("count(6)", x.count(6), 2);
    }

    private static void aStepThatDoesNotGo() {
        Due.says("-100 less i: STEP i does not GO (or its kind is none)");
        for (int i = 0; i < 20; i++) {
            int[][] bad = {{0, 0, 3}, {0, 1, 0}, {0, 9, 0}, {2, 0, 0}, {3, 0, 0}, {4, 0, 0}, {-1, 0, 0}, {0, 2, 0}};
            for (int[] b : bad) {
                ShownLibrary x = Due.with("taken mxy=myx;wish mxy=myx;taken mxx=x;");
                x.sheet(0, BYTES, 60);
                for (int c = 0; c < 3; c++) {
                    x.lay(0, 3 * i + c, b[c]);
                }
                x.prove(1);
                Due.is("step " + i, x.read(1, 0, BYTES, 0, 20), -100 - i);
                Due.is("nothing is shown", x.of(1, 0), 1);
                Due.is("the proof in hand stays", x.proof(0), 1);
                Due.is("no steps are told", x.count(6), 0);
                Due.is("those ahead of it", x.read(1, 0, BYTES, 0, i), i % 2);
            }
        }
    }

    private static void theFirstThenNothingIsShown() {
        Due.says("0: they do not come to its right TERM; FULL: more than 200 STEPS of all; the first: then nothing is shown.");
        ShownLibrary x = Due.with("taken mxy=myx;wish mxo=mox;");
        x.sheet(0, BYTES, 9);
        Due.is("two steps come back to the left one", x.read(1, 0, BYTES, 0, 2), 0);
        Due.is("no steps", x.read(1, 0, BYTES, 0, 0), 0);
        Due.is("wished still", x.of(1, 0), 1);
        Due.is("never shown", x.of(1, 5), Due.NONE);
        Due.is("beyond the right one there is no stop", x.read(1, 0, BYTES, 0, 3), 1);
        Due.is("all three", x.of(1, 5), 3);
    }

    private static void theProofInHand() {
        Due.says("(THE PROOF in hand is dropped, if it is of that one and it is SHOWN.)");
        ShownLibrary x = Due.with("taken mxy=myx;wish mxo=mox;wish x=x;");
        x.sheet(0, BYTES, 6);
        x.prove(1);
        x.step(0, 0, 0);
        Due.is("of that one, not shown", x.read(1, 0, BYTES, 0, 2), 0);
        Due.is("it stays", x.proof(1), 1);
        Due.reads("its term", Due.inHand(x), "mox");
        Due.is("of another one, shown", x.read(2, 0, BYTES, 0, 0), 1);
        Due.is("it stays still", x.proof(0), 1);
        Due.is("of that one, shown", x.read(1, 0, BYTES, 3, 1), 1);
        Due.is("dropped", x.proof(0), Due.STATE);
    }

    private static void whatIsRead() {
        Due.says("STEPS (kind, of which, PLACE) of a PROOF of a SAYING are read of a SHEET");
        ShownLibrary x = Due.with("word b 1 x;word a 1 x;taken mxy=myx;wish mbxo=moax;");
        // PUT IN: of which is not looked at
        Due.sheet(x, 3, SHORTS, 77, 2, 999, 1, 3, 1, 1, 0, 0, 0);
        Due.is("from cell 1 on", x.read(1, 3, SHORTS, 1, 3), 1);
        int[][] due = {{2, Due.NONE, 1}, {3, 1, 1}, {0, 0, 0}};
        for (int i = 0; i < 3; i++) {
            for (int what = 0; what < 3; what++) {
                Due.is("stepOf(1, " + i + ", " + what + ")", x.stepOf(1, i, what), due[i][what]);
            }
        }
        Due.is("leans(1, 0)", x.leans(1, 0), 1);
        Due.is("word(0, 3)", x.word(0, 3), 1);
        Due.is("word(1, 3)", x.word(1, 3), 1);
        Due.is("the sheet stays", x.lay(3, 9, 0), 1);
        Due.is("of ten cells", x.lay(3, 10, 0), -12);
    }

    // ---- count

    private static void counts(ShownLibrary x, int... due) {
        for (int what = 0; what < due.length; what++) {
            Due.is("count(" + what + ")", x.count(what), due[what]);
        }
    }

    private static void count() {
        Due.says("How many: 0 SAYINGS, 1 TAKEN, 2 WISHED, 3 SHOWN, 4 BROKEN, 5 WORDS, 6 STEPS of all PROOFS that are told, 7 THE HAND, 8 THE DAY, 9 bytes on THE TAPE, 10 CELLS of SHEET 0 (NONE: nothing). BAD.");
        ShownLibrary x = new ShownLibrary();
        counts(x, 0, 0, 0, 0, 0, 0, 0, 0, 0, 0, Due.NONE);
        Due.tell(x, "word a 1 mxx;taken mxx=x;taken o=o;taken x=x;wish ax=x;wish ax=mxx;wish x=y;wish x=x;");
        x.hand(9);
        x.day(999);
        x.feed(0);
        x.sheet(0, INTS, 90);
        x.sheet(1, INTS, 7);
        counts(x, 7, 3, 4, 0, 0, 1, 0, 9, 999, 8, 90);
        x.take(3, 2, 20);
        x.take(4, 1, 20);
        x.take(6, 0, 20);
        counts(x, 7, 3, 1, 3, 0, 1, 3, 9, 999, 8, 90);
        x.prove(5);
        x.step(0, 2, 0);
        counts(x, 7, 3, 1, 3, 0, 1, 3, 9, 999, 8, 90);
        x.end(0);
        Due.is("two break", Due.change(x, 0, "o"), 2);
        x.sheet(0, BYTES, 0);
        counts(x, 7, 3, 1, 1, 2, 1, 3, 9, 999, 0, 0);
        for (int what : new int[] {Due.MIN, -1, 11, 12, Due.MAX}) {
            Due.is("count(" + what + ")", x.count(what), Due.BAD);
        }
    }

    public static void main(String[] args) {
        sheetsZeroToThree();
        sheet();
        aNewRowOfZeros();
        lay();
        itsLowestBits();
        readFaults();
        indexOfAnyCell();
        whatReadWants();
        aBrokenOne();
        aStepThatDoesNotGo();
        theFirstThenNothingIsShown();
        theProofInHand();
        whatIsRead();
        count();
        Due.finish();
    }
}
