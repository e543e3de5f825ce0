/** Promise 19: change. */
public final class ChangeTest {
    private static void bad(ShownLibrary x, int w, String meaning, int fault, int place) {
        Due.is("change(" + w + ") to '" + meaning + "'", Due.change(x, w, meaning), -10 - place);
        Due.is("its fault", x.fault(), fault);
        Due.is("its tape", x.count(9), 0);
    }

    private static void refusals() {
        ShownLibrary x = Due.with("word a 1 mxx;word b 2 mxay;word c 1 bxx;wish ax=mxx;wish bxy=o;");
        x.prove(1);
        Due.type(x, "x");
        Due.is("change(3)", x.change(3), Due.BAD);
        Due.is("change(-1)", x.change(-1), Due.BAD);
        Due.is("the tape stays", x.count(9), 1);
        x.end(0);
        bad(x, 0, "", 2, 0);
        bad(x, 0, "   ", 2, 3);
        bad(x, 0, "?", 1, 0);
        bad(x, 0, "12", 1, 0);
        bad(x, 0, "1", 2, 0);
        bad(x, 0, ";", 2, 0);
        bad(x, 0, "= x", 2, 0);
        bad(x, 0, "y", 5, 0);
        bad(x, 0, " ax", 5, 1);
        bad(x, 0, "bxx", 5, 0);
        bad(x, 0, "mx", 5, 0);
        bad(x, 0, "xx", 5, 0);
        bad(x, 1, "mxz", 5, 0);
        bad(x, 1, "cx", 5, 0);
        bad(x, 1, "bxy", 5, 0);
        bad(x, 2, "y", 5, 0);
        bad(x, 0, "mmmmmmmmmmxxxxxxxxxxx", 5, 0);
        bad(x, 0, "x ;", 2, 2);
        bad(x, 0, "x  o", 2, 3);
        bad(x, 0, "x 1", 2, 2);
        bad(x, 0, "x 11", 1, 2);
        bad(x, 0, "x?", 1, 1);
        bad(x, 0, "mx ?", 5, 0);
        Due.is("the proof in hand stays", x.proof(0), 1);
        Due.is("the meaning stays", x.word(0, 2), 3);
        Due.is("a good one, blanks about", Due.change(x, 1, "  mymxo  "), 0);
        Due.is("word(1, 2)", x.word(1, 2), 5);
        Due.is("word(1, 11)", x.word(1, 11), 24);
        Due.is("the proof in hand is dropped", x.proof(0), Due.STATE);
        Due.is("words that came ahead", Due.change(x, 2, "bxax"), 0);
        Due.is("20 signs", Due.change(x, 0, "mmmmmmmmmxxxxxxxxxx"), 0);
    }

    private static void breaking() {
        ShownLibrary x = Due.with("word a 1 mxx;taken mxx=x;wish ax=x;wish aax=x;wish ao=moo;wish mxx=ax;wish maxx=x;");
        // 1: put in, use; 2: use of 1 twice; 3: put in; 4: put out; 5: use of 1, use of 0
        x.prove(1);
        x.step(2, 0, 0);
        x.step(0, 0, 0);
        Due.is("show 1", x.show(), 2);
        x.prove(2);
        x.step(0, 1, 1);
        x.step(0, 1, 0);
        Due.is("show 2", x.show(), 2);
        x.prove(3);
        x.step(2, 0, 0);
        Due.is("show 3", x.show(), 1);
        x.prove(4);
        x.step(3, 0, 0);
        Due.is("show 4", x.show(), 1);
        x.prove(5);
        x.step(0, 1, 1);
        x.step(0, 0, 0);
        Due.is("show 5", x.show(), 2);
        Due.is("word(0, 3)", x.word(0, 3), 3);
        Due.is("the same meaning again", Due.change(x, 0, "mxx"), 0);
        Due.is("all stand", x.count(3), 5);
        x.day(1);
        Due.is("a becomes mxo", Due.change(x, 0, "mxo"), 4);
        Due.is("1 breaks at the use", x.of(1, 6), 1);
        Due.is("2 leans on 1", x.of(2, 6), 0);
        Due.is("3 stands: ao is moo still", x.of(3, 0), 2);
        Due.is("4 breaks at the put out", x.of(4, 6), 0);
        Due.is("5 leans on 1", x.of(5, 6), 0);
        Due.is("count(4)", x.count(4), 4);
        Due.is("leans(2, 0) of a broken one", x.leans(2, 0), 0);
        Due.is("leans(1, 2)", x.leans(1, 2), 0);
        Due.is("of(2, 5)", x.of(2, 5), 2);
        Due.is("as(2, 0)", x.as(2, 0), 2);
        Due.is("as(2, 1)", x.as(2, 1), 3);
        Due.is("word(0, 3) then", x.word(0, 3), 1);
        Due.is("back: what is broken stays so", Due.change(x, 0, "mxx"), 0);
        Due.is("of(1, 0)", x.of(1, 0), 3);
        Due.is("2 can not be shown by 1 that is broken", x.prove(2), 3);
        Due.is("step", x.step(0, 1, 1), -21);
        Due.is("1 is shown anew", x.take(1, 4, 20), 2);
        Due.is("of(1, 6) then", x.of(1, 6), Due.NONE);
        Due.is("2 goes again", x.step(0, 1, 1), 2);
        Due.is("and again", x.step(0, 1, 0), 1);
        Due.is("show 2", x.show(), 2);
        Due.is("a becomes x: 1 breaks at its use", Due.change(x, 0, "x"), 3);
        Due.is("3 does not come to its right term", x.of(3, 6), 1);
    }

    /** One that is shown anew stands behind those that were shown ahead of that. */
    private static void orderOfShowing() {
        ShownLibrary x = Due.with("word a 1 x;word b 1 x;wish ax=x;wish bx=x;wish mbxo=mxo;");
        Due.is("0 by a", x.take(0, 1, 20), 1);
        Due.is("a breaks 0", Due.change(x, 0, "o"), 1);
        Due.change(x, 0, "x");
        Due.is("1 by b", x.take(1, 1, 20), 1);
        x.prove(0);
        x.step(1, 1, 0);
        x.step(0, 1, 0);
        x.step(2, 0, 0);
        Due.is("0 anew, by 1", x.show(), 3);
        Due.is("leans(0, 0)", x.leans(0, 0), 2);
        x.prove(2);
        x.step(0, 1, 1);
        Due.is("2 by 1", x.show(), 1);
        Due.is("b breaks 1, so 0 and 2", Due.change(x, 1, "o"), 3);
        Due.is("of(1, 6)", x.of(1, 6), 1);
        Due.is("of(0, 6)", x.of(0, 6), 0);
        Due.is("of(2, 6)", x.of(2, 6), 0);
        Due.is("count(6)", x.count(6), 1 + 1 + 3 + 1);
    }

    /** Which word a put in puts in may be another one behind a change. */
    private static void anotherWordPutIn() {
        ShownLibrary x = Due.with("word a 1 mxo;word b 1 mxo;word c 1 ax;wish cx=mxo;");
        Due.is("take", x.take(0, 2, 20), 2);
        Due.is("a is put in", x.word(0, 3), 1);
        Due.is("b is not", x.word(1, 3), 0);
        Due.is("c becomes bx", Due.change(x, 2, "bx"), 0);
        Due.is("a is not put in", x.word(0, 3), 0);
        Due.is("b is", x.word(1, 3), 1);
        Due.is("a changed breaks nothing", Due.change(x, 0, "o"), 0);
        Due.is("b changed does", Due.change(x, 1, "o"), 1);
        Due.is("of(0, 6)", x.of(0, 6), 2);
        Due.is("c becomes x", Due.change(x, 2, "x"), 0);
        Due.is("b back", Due.change(x, 1, "mxo"), 0);
        Due.is("c back", Due.change(x, 2, "bx"), 0);
        Due.is("shown again", x.take(0, 2, 20), 2);
        Due.is("c becomes x: no word's sign", Due.change(x, 2, "x"), 1);
        Due.is("of(0, 6)", x.of(0, 6), 1);
    }

    public static void main(String[] args) {
        refusals();
        breaking();
        orderOfShowing();
        anotherWordPutIn();
        Due.finish();
    }
}
