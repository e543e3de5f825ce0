/** Promises 1 to 5: a new object, feed, end, text, fault. */
public final class TapeTest {
    private static void newObject() {
        ShownLibrary x = new ShownLibrary();
        for (int what = 0; what <= 9; what++) {
            Due.is("new: count(" + what + ")", x.count(what), 0);
        }
        Due.is("new: count(10)", x.count(10), Due.NONE);
        Due.is("new: fault()", x.fault(), 0);
        for (int k = 0; k < 4; k++) {
            Due.is("new: lay(" + k + ", 0, 0)", x.lay(k, 0, 0), -11);
        }
        Due.is("new: proof(0)", x.proof(0), Due.STATE);
        Due.is("new: text()", x.text(), 0);
        Due.is("new: end(0)", x.end(0), 0);
        Due.is("new: end(1)", x.end(1), Due.BAD);
    }

    private static void feedAndEnd() {
        ShownLibrary x = new ShownLibrary();
        for (int i = 1; i <= 30; i++) {
            Due.is("feed " + i, x.feed(0x2020202020202020L), 8 * i);
        }
        Due.is("feed 31", x.feed(0x2020202020202020L), Due.FULL);
        Due.is("count(9) when full", x.count(9), 240);
        Due.is("end(241)", x.end(241), Due.BAD);
        Due.is("end(-1)", x.end(-1), Due.BAD);
        Due.is("end(240)", x.end(240), 240);
        Due.is("end(233)", x.end(233), 240);
        Due.is("feed at 233", x.feed(0), Due.FULL);
        Due.is("count(9) at 233", x.count(9), 233);
        Due.is("end(232)", x.end(232), 233);
        Due.is("feed at 232", x.feed(0x2020202020202020L), 240);
        Due.is("end(233) of 240", x.end(233), 240);
        Due.is("end(234) of 233", x.end(234), Due.BAD);
        Due.is("text() of blanks", x.text(), 0);
        Due.is("count(9) behind text()", x.count(9), 0);
        // the highest byte first
        Due.is("feed wish x=x", x.feed(0x7769736820783d78L), 8);
        Due.is("feed ;", x.feed(0x3b20202020202020L), 16);
        Due.is("text() of it", x.text(), 1);
        Due.is("sign(0, 0, 0)", x.sign(0, 0, 0), 23);
        // bytes that were cut off do not come back
        x.feed(-1L);
        Due.is("end(0)", x.end(0), 8);
        Due.is("text() behind end(0)", x.text(), 0);
    }

    private static void bad(String text, int fault, int place) {
        ShownLibrary x = Due.with("word a 1 mxx;taken ax=x;");
        Due.is("text() of '" + text + "'", Due.tell(x, text), -10 - place);
        Due.is("fault() of '" + text + "'", x.fault(), fault);
        Due.is("tape behind '" + text + "'", x.count(9), 0);
        Due.is("sayings behind '" + text + "'", x.count(0), 1);
        Due.is("words behind '" + text + "'", x.count(5), 1);
        Due.is("text() then", Due.tell(x, "word b 2 mxay;"), 1);
        Due.is("fault() then", x.fault(), 0);
    }

    private static void faults() {
        // 1: no token, a number of two figures or more
        bad("?", 1, 0);
        bad("taken x=x;\n", 1, 10);
        bad("taken\tx=x;", 1, 5);
        bad("taken x=X;", 1, 8);
        bad("taken x\u0000=x;", 1, 7);
        bad("taken x\u00e9=x;", 1, 7);
        bad("word b 10 x;", 1, 7);
        bad("taken 22=x;", 1, 6);
        bad("  12", 1, 2);
        bad("taken x=x-;", 1, 9);
        bad("{", 1, 0);
        bad("`", 1, 0);
        bad("taken x/x;", 1, 7);
        bad("taken x:x;", 1, 7);
        // 2: a token that can not stand there, the end
        bad("say x=x;", 2, 0);
        bad("wishx=x;", 2, 0);
        bad("takenx=x;", 2, 0);
        bad("words a 1 x;", 2, 0);
        bad("wor", 2, 0);
        bad("1", 2, 0);
        bad(";", 2, 0);
        bad("=", 2, 0);
        bad("wish x=x;;", 2, 9);
        bad("wish x=x; x", 2, 10);
        bad("word", 2, 4);
        bad("word  ", 2, 6);
        bad("word e 1 x;", 2, 5);
        bad("word ab 1 x;", 2, 5);
        bad("word x 1 x;", 2, 5);
        bad("word 1 x;", 2, 5);
        bad("word b x;", 2, 7);
        bad("word b ;", 2, 7);
        bad("word b 1 1;", 2, 9);
        bad("word b 1 ;", 2, 9);
        bad("word b 1 x", 2, 10);
        bad("word b 1 x x;", 2, 11);
        bad("word b 1 x=x;", 2, 10);
        bad("taken =x;", 2, 6);
        bad("taken x;", 2, 7);
        bad("taken x x;", 2, 8);
        bad("taken x=;", 2, 8);
        bad("taken x=x", 2, 9);
        bad("taken x=x   ", 2, 12);
        bad("taken x=x=", 2, 9);
        bad("taken x 1", 2, 8);
        // 3: a number that is not 1 or 2
        bad("word b 0 x;", 3, 7);
        bad("word b 3 x;", 3, 7);
        bad("word b 9", 3, 7);
        // 4: a word that there is already
        bad("word a 1 x;", 4, 5);
        bad("word a ?", 4, 5);
        bad("word b 1 x;word b 2 y;", 4, 16);
        // 5: a row that is no term as wanted
        bad("word b 1 y;", 5, 9);
        bad("word b 1 z;", 5, 9);
        bad("word b 2 mxz;", 5, 9);
        bad("word b 1 bx;", 5, 9);
        bad("word b 1 cx;", 5, 9);
        bad("word b 1 mx;", 5, 9);
        bad("word b 1 mxxx;", 5, 9);
        bad("word b 1 a;", 5, 9);
        bad("word b 1 axx;", 5, 9);
        bad("word b 1 mxx ?", 1, 13);
        bad("word b 1 mx ?", 5, 9);
        bad("taken bx=x;", 5, 6);
        bad("taken xy=x;", 5, 6);
        bad("taken m=x;", 5, 6);
        bad("taken x=mx;", 5, 8);
        bad("taken x=w;", 5, 8);
        bad("taken p=x;", 5, 6);
        bad("wish x=ee;", 5, 7);
        bad("taken aaaaaaaaaaaaaaaaaaaax=x;", 5, 6);
        bad("wish x=mmmmmmmmmmxxxxxxxxxxx;", 5, 7);
        // what came ahead in the same text is undone too
        bad("word b 1 x;word c 1 bx;taken cx=x;wish x=y;say", 2, 43);
    }

    private static void good() {
        ShownLibrary x = new ShownLibrary();
        Due.is("words by words ahead", Due.tell(x, "word c 2 mxy;word a 1 cxx;word d 1 o;word b 2 y;"), 4);
        Due.is("count(5)", x.count(5), 4);
        Due.is("no blanks", Due.tell(x, "word d1mx;"), -15);
        Due.is("blanks all over", Due.tell(x, "   wish   x   =   y   ;   taken o=o;  "), 2);
        Due.is("20 signs", Due.tell(x, "wish mmmmmmmmmaxxxxxxxxxx=aaaaaaaaaaaaaaaaaaax;"), 1);
        Due.is("of(2, 3)", x.of(2, 3), 20);
        Due.is("of(2, 4)", x.of(2, 4), 20);
        Due.is("all names", Due.tell(x, "taken mmxyz=cydz;"), 1);
        Due.is("count(0)", x.count(0), 4);
        ShownLibrary y = new ShownLibrary();
        Due.is("tokens without blanks", Due.tell(y, "word a1mxx;taken ax=x;"), 2);
    }

    private static void twentyFive() {
        ShownLibrary x = new ShownLibrary();
        for (int i = 0; i < 23; i++) {
            Due.is("saying " + i, Due.tell(x, i % 2 == 0 ? "wish x=y;" : "taken x=x;"), 1);
        }
        Due.is("24th and 25th", Due.tell(x, "taken o=o;  wish ?"), -22);
        Due.is("its fault", x.fault(), 6);
        Due.is("none of it came", x.count(0), 23);
        Due.is("24th", Due.tell(x, "taken o=o;"), 1);
        Due.is("25th", Due.tell(x, "taken o=o;"), -10);
        Due.is("its fault", x.fault(), 6);
        Due.is("a word still comes", Due.tell(x, "word a 1 x;"), 1);
        Due.is("a word, then 25th", Due.tell(x, "word b 1 x;wish x=x;"), -21);
        Due.is("that word did not come", x.count(5), 1);
        Due.is("24 stand", x.count(0), 24);
    }

    private static void faultStays() {
        ShownLibrary x = Due.with("word a 1 x;");
        Due.tell(x, "say");
        Due.is("fault()", x.fault(), 2);
        Due.is("fault() again", x.fault(), 2);
        Due.type(x, "o");
        Due.is("change(7)", x.change(7), Due.BAD);
        Due.is("fault() behind a change that was refused", x.fault(), 2);
        Due.is("its tape stays", x.count(9), 1);
        Due.is("change(0)", x.change(0), 0);
        Due.is("fault() of change", x.fault(), 0);
        Due.is("change(0) of nothing", x.change(0), -10);
        Due.is("fault() of that", x.fault(), 2);
        Due.is("text() of nothing", x.text(), 0);
        Due.is("fault() behind it", x.fault(), 0);
    }

    public static void main(String[] args) {
        newObject();
        feedAndEnd();
        faults();
        good();
        twentyFive();
        faultStays();
        Due.finish();
    }
}
