/** Promises 20 and 21: seek, take. */
public final class SeekTest {
    private static void refusals() {
        ShownLibrary x = Due.with("taken mxy=myx;wish mxo=mox;");
        Due.is("seek(2, ..)", x.seek(2, 1, 5, 0), Due.BAD);
        Due.is("seek(-1, ..)", x.seek(-1, 1, 5, 0), Due.BAD);
        Due.is("n -1", x.seek(1, -1, 5, 0), Due.BAD);
        Due.is("n 9", x.seek(1, 9, 5, 0), Due.BAD);
        Due.is("s 0", x.seek(1, 1, 0, 0), Due.BAD);
        Due.is("s 21", x.seek(1, 1, 21, 0), Due.BAD);
        Due.is("what 2", x.seek(1, 1, 5, 2), Due.BAD);
        Due.is("what -1", x.seek(1, 1, 5, -1), Due.BAD);
        Due.is("a taken one", x.seek(0, 1, 5, 0), Due.STATE);
        Due.is("a taken one, what 2", x.seek(0, 1, 5, 2), Due.BAD);
        Due.is("take(2, ..)", x.take(2, 1, 5), Due.BAD);
        Due.is("take n 9", x.take(1, 9, 5), Due.BAD);
        Due.is("take s 0", x.take(1, 1, 0), Due.BAD);
        Due.is("take of a taken one", x.take(0, 1, 5), Due.STATE);
        Due.is("not within n", x.take(1, 0, 5), Due.NONE);
        Due.is("not within s", x.take(1, 8, 2), Due.NONE);
        Due.is("it is wished still", x.of(1, 0), 1);
        x.prove(1);
        Due.is("take", x.take(1, 1, 3), 1);
        Due.is("the proof in hand is dropped", x.proof(0), Due.STATE);
        Due.is("take again", x.take(1, 1, 3), Due.STATE);
        Due.is("seek then", x.seek(1, 1, 3, 0), Due.STATE);
    }

    private static void fewest() {
        ShownLibrary x = Due.with("taken mxo=x;taken mxy=myx;wish momox=x;wish mmmxooo=o;wish x=mmxoo;wish x=x;wish x=y;");
        Due.is("4 steps", x.seek(2, 8, 5, 0), 4);
        Due.is("take", x.take(2, 8, 5), 4);
        Due.is("never o", x.seek(3, 8, 1, 0), Due.NONE);
        Due.is("back twice", x.seek(4, 2, 5, 0), 2);
        Due.is("back, too long", x.seek(4, 8, 4, 0), Due.NONE);
        Due.is("at once", x.seek(5, 0, 1, 0), 0);
        Due.is("at once: one term", x.seek(5, 8, 20, 1), 1);
        Due.is("n 0: one term", x.seek(6, 0, 20, 1), 1);
        Due.is("s 1: one term", x.seek(6, 8, 1, 1), 1);
        Due.is("s 3, n 1", x.seek(6, 1, 3, 1), 2);
        Due.is("s 3, n 2", x.seek(6, 2, 3, 1), 3);
        // x; of it mxo, momox (2 is shown); of these mmxoo, mxmoo, mox, mmoxo, momxo
        Due.is("s 5, n 2", x.seek(6, 2, 5, 1), 8);
        x.prove(6);
        Due.is("take of another one", x.take(4, 2, 5), 2);
        Due.is("the proof in hand stays", x.proof(0), 6);
    }

    /** Which way is taken, when there are several. */
    private static void order() {
        ShownLibrary x = Due.with("word a 1 x;word b 1 x;taken mxx=x;taken x=mxx;taken y=y;wish mxx=x;wish ax=x;wish x=bx;wish mmxxmxx=mmxxx;");
        Due.is("use ahead of back", x.take(3, 1, 20), 1);
        Due.is("kind", x.stepOf(3, 0, 0), 0);
        Due.is("the first saying", x.stepOf(3, 0, 1), 0);
        Due.is("put in", x.take(4, 1, 20), 1);
        Due.is("kind 2", x.stepOf(4, 0, 0), 2);
        Due.is("put out", x.take(5, 1, 20), 1);
        Due.is("kind 3", x.stepOf(5, 0, 0), 3);
        Due.is("of word b", x.stepOf(5, 0, 1), 1);
        Due.is("within", x.take(6, 1, 20), 1);
        Due.is("at place 4", x.stepOf(6, 0, 2), 4);
        ShownLibrary y = Due.with("word a 1 x;taken x=y;taken ax=x;wish x=ax;");
        Due.is("back ahead of put out", y.take(2, 1, 20), 1);
        Due.is("it is back", y.stepOf(2, 0, 0), 1);
        Due.is("of 1", y.stepOf(2, 0, 1), 1);
    }

    private static void termsInOrder() {
        // from x: back of 0 gives mxo; put out gives ax; from mxo: mmxoo, mxmoo, mox (use of 1), ...
        ShownLibrary x = Due.with("word a 1 x;taken mxo=x;taken mxo=mox;wish x=mox;wish x=ax;wish x=aax;wish x=maxo;");
        Due.is("mxo, ax, mmxoo, mxmoo, mox", x.seek(2, 8, 5, 1), 6);
        Due.is("ax is the third", x.seek(3, 8, 5, 1), 3);
        Due.is("within 3 signs", x.seek(2, 8, 3, 1), 4);
        // of mxo: mmxoo, mxmoo, mox, amxo, maxo, ...
        Due.is("put outs place by place", x.seek(5, 8, 5, 1), 8);
        Due.is("two steps", x.seek(5, 8, 5, 0), 2);
    }

    private static void spent() {
        ShownLibrary x = Due.with("taken x=mxx;taken mxy=myx;wish o=x;wish o=moo;");
        Due.is("spent", x.seek(2, 8, 20, 0), Due.SPENT);
        Due.is("spent, what 1", x.seek(2, 8, 20, 1), Due.SPENT);
        Due.is("take spent", x.take(2, 8, 20), Due.SPENT);
        Due.is("met ahead of it", x.seek(3, 8, 20, 0), 1);
        Due.is("not spent within 5 signs", x.seek(2, 8, 5, 1), 4);
        // a chain of words: a of a of .. grows by one term each time, two words make 2^k rows of k signs
        ShownLibrary y = Due.with("word a 1 x;word b 1 x;wish o=x;");
        Due.is("1 + 2 + 4 + .. + 128", y.seek(0, 7, 20, 0), Due.SPENT);
        Due.is("127 terms", y.seek(0, 6, 20, 1), 127);
        Due.is("6 signs", y.seek(0, 8, 7, 1), 127);
        ShownLibrary z = Due.with("word a 1 x;word b 1 x;word c 1 x;word d 1 x;wish o=ddddo;wish o=dddco;wish x=o;");
        Due.is("85 terms within 3 steps", z.seek(2, 3, 20, 1), 85);
        Due.is("spent at 4 steps", z.seek(2, 4, 20, 1), Due.SPENT);
    }

    /** The 250th term is met, the 251st is not. */
    private static void theLastTerm() {
        // 1 + 3 + 9 + 27 + 81 = 121 terms of up to 4 letters; then rows of 5 letters come in order
        String[] rows = new String[400];
        int many = 0;
        rows[many++] = "o";
        ShownLibrary x = Due.with("word a 1 x;word b 1 x;word c 1 x;");
        // from each in turn: put in first (what was met), then put out of a, b, c at each place
        for (int i = 0; i < many && many < 300; i++) {
            for (int w = 0; w < 3; w++) {
                for (int p = 0; p < rows[i].length(); p++) {
                    String next = rows[i].substring(0, p) + (char) ('a' + w) + rows[i].substring(p);
                    boolean seen = false;
                    for (int k = 0; k < many; k++) {
                        seen |= rows[k].equals(next);
                    }
                    if (!seen && many < 300) {
                        rows[many++] = next;
                    }
                }
            }
        }
        Due.tell(x, "wish o=" + rows[249] + ";wish o=" + rows[250] + ";wish o=" + rows[248] + ";");
        Due.is("the 249th", x.seek(2, 8, 20, 1), 249);
        Due.is("the 250th", x.seek(0, 8, 20, 1), 250);
        Due.is("the 250th, steps", x.seek(0, 8, 20, 0), rows[249].length() - 1);
        Due.is("the 251st", x.seek(1, 8, 20, 0), Due.SPENT);
    }

    public static void main(String[] args) {
        refusals();
        fewest();
        order();
        termsInOrder();
        spent();
        theLastTerm();
        Due.finish();
    }
}
