/** Promises 25 to 27: like, find, teach. */
public final class LikeTest {
    /** Whether two sayings are like, for each how from 0 to 7. */
    private static void likes(String words, String one, String other, String due) {
        ShownLibrary x = Due.with(words + "wish " + one + ";wish " + other + ";");
        for (int how = 0; how < 8; how++) {
            int want = due.charAt(how) - '0';
            Due.is(one + " like " + other + ", how " + how, x.like(0, 1, how), want);
            Due.is(other + " like " + one + ", how " + how, x.like(1, 0, how), want);
            Due.is("find of " + one + ", how " + how, x.find(0, how, 0), want);
            Due.is("the least like " + one + ", how " + how, x.find(0, how, 1), want == 1 ? 1 : Due.NONE);
        }
    }

    private static void alike() {
        likes("", "mxy=myx", "mzx=mxz", "11111111");
        likes("", "mxy=x", "mxx=x", "00000000");
        likes("", "mxx=x", "mxy=x", "00000000");
        likes("", "mxy=z", "mzy=x", "11111111");
        likes("", "mxy=x", "mxy=y", "00110011");
        likes("", "x=mxo", "myo=y", "01010101");
        likes("", "x=mxo", "moy=y", "00010001");
        likes("", "o=x", "y=z", "00000000");
        likes("", "mmxyz=o", "mzmyx=o", "00110011");
        likes("", "mmxyz=mxo", "mxmyz=mxo", "00000000");
        likes("", "mmxyz=mzo", "mxmyz=mox", "00110011");
        likes("", "mmxyx=o", "mxmyx=o", "00110011");
        likes("", "mmxxy=o", "mxmyx=o", "00000000");
        for (String other : new String[] {"mmxzy=x", "mmyxz=y", "mmyzx=y", "mmzxy=z", "mmzyx=z"}) {
            likes("", "mmxyz=x", other, "11111111");
        }
        likes("", "mmxyz=x", "mmxyz=y", "00110011");
        likes("", "mmxyz=x", "mmxyz=z", "00000000");
        likes("", "mmxymzo=mxo", "mmozmxy=mxo", "00110011");
        likes("", "mmxymzo=mxo", "mmzomyx=mxo", "00110011");
        likes("", "mmxymzo=mxo", "mmozmyx=mzo", "00000000");
        likes("", "mmxomxy=mxy", "mmyxmxo=mxy", "00110011");
        likes("", "mmxomxy=mxy", "mmyxmyo=mxy", "00110011");
        likes("", "mmxomxy=mxo", "mmyxmyo=mxo", "00000000");
        likes("", "mmxmyzmxmzy=x", "mmmzxymymzy=y", "00000000");
        likes("", "mmxmyzmxmzy=x", "mmmzxymymxz=y", "00110011");
        likes("word a 1 mxo;", "maxmyo=x", "mmyoax=x", "00110011");
        likes("word a 1 mxo;", "maxx=o", "mxay=o", "00000000");
        likes("word a 1 mxo;", "maxx=o", "myay=o", "00110011");
        likes("word a 1 mxo;", "mmxazay=x", "maymazx=x", "00110011");
        likes("word a 2 mxo;", "mazxy=x", "myazx=x", "00110011");
        likes("word a 1 mxx;", "ax=x", "myy=y", "00001111");
        likes("word a 1 mxo;", "x=ax", "moy=y", "00000001");
        likes("word a 2 mxy;", "axy=x", "axy=y", "00000011");
        likes("word a 2 myx;word b 2 axy;", "bxo=x", "moy=y", "00001111");
        likes("word a 2 x;", "axmyz=x", "y=y", "00001111");
        likes("word a 1 mxx;", "amxy=o", "amyx=o", "11111111");
        likes("word a 1 mxx;", "amxo=o", "amox=o", "00110011");
        likes("word a 1 mxo;", "mayx=o", "mxay=o", "00110011");
    }

    private static void asks() {
        ShownLibrary x = Due.with("taken mxy=myx;wish mxo=x;taken myz=mzy;wish o=o;wish myx=mxy;wish y=moy;");
        Due.is("like itself", x.like(1, 1, 0), 1);
        Due.is("find 0", x.find(0, 0, 0), 2);
        Due.is("the least", x.find(0, 0, 1), 2);
        Due.is("the least of 2", x.find(2, 0, 1), 0);
        Due.is("none like o", x.find(3, 7, 0), 0);
        Due.is("none is least", x.find(3, 7, 1), Due.NONE);
        Due.is("by sides and mates", x.find(1, 3, 1), 5);
        Due.is("by sides", x.find(1, 1, 0), 0);
        Due.is("how 8", x.like(0, 1, 8), Due.BAD);
        Due.is("how -1", x.like(0, 1, -1), Due.BAD);
        Due.is("like(6, 0, 0)", x.like(6, 0, 0), Due.BAD);
        Due.is("like(0, 6, 0)", x.like(0, 6, 0), Due.BAD);
        Due.is("like(0, -1, 0)", x.like(0, -1, 0), Due.BAD);
        Due.is("find(6, 0, 0)", x.find(6, 0, 0), Due.BAD);
        Due.is("find how 8", x.find(0, 8, 0), Due.BAD);
        Due.is("find what 2", x.find(0, 0, 2), Due.BAD);
        Due.is("find what -1", x.find(0, 0, -1), Due.BAD);
    }

    /** More than 200 signs, or a word left behind 400: like none, itself included. */
    private static void tooMuch() {
        // a doubles: aaaaaa x is 127 signs, aaaaaaa x is 255
        ShownLibrary x = Due.with("word a 1 mxx;wish aaaaaax=o;wish aaaaaay=o;wish aaaaaaax=o;wish aaaaaaay=o;wish o=o;");
        Due.is("127 signs", x.like(0, 1, 4), 1);
        Due.is("127 signs, any order", x.like(0, 1, 7), 1);
        Due.is("255 signs", x.like(2, 3, 4), 0);
        Due.is("255 signs, words stay", x.like(2, 3, 3), 1);
        Due.is("255 signs, itself", x.like(2, 2, 4), 0);
        Due.is("find of it", x.find(2, 4, 0), 0);
        Due.is("find of it, words stay", x.find(2, 0, 1), 3);
        Due.is("find that meets it", x.find(4, 4, 0), 0);
        Due.is("its other side", x.like(4, 2, 5), 0);
        // it would be short again, but it was too long once
        ShownLibrary y = Due.with("word a 1 o;word b 1 mxx;word c 1 bbbbbbbx;wish cax=o;wish acx=o;wish cao=o;wish aco=o;");
        Due.is("too long on the way", y.like(0, 2, 4), 0);
        Due.is("never long, the first word first", y.like(1, 3, 4), 1);
        // 20 put ins for each b behind a c, 21 for each c: 19 b are 380, a c is 381
        ShownLibrary z = Due.with("word a 1 x;word b 1 aaaaaaaaaaaaaaaaaaax;word c 1 bbbbbbbbbbbbbbbbbbbx;"
            + "wish x=x;wish bbbbbbbbbbbbbbbbbbbx=x;wish cx=x;");
        Due.is("380 put ins", z.like(0, 1, 4), 1);
        Due.is("381 put ins", z.like(0, 2, 4), 1);
        Due.tell(z, "wish caaaaaaaaaaaaaaaaaax=x;wish aaaaaaaaaaaaaaaaaacx=x;wish cbx=x;wish cccccx=x;");
        Due.is("399 put ins", z.like(0, 3, 4), 1);
        Due.is("399 put ins, c last", z.like(0, 4, 4), 1);
        Due.is("401 put ins", z.like(0, 5, 4), 0);
        Due.is("many put ins", z.like(0, 6, 4), 0);
        Due.is("many put ins, itself", z.like(6, 6, 4), 0);
        Due.is("many put ins, itself, words stay", z.like(6, 6, 3), 1);
        Due.tell(z, "wish caaaaaaaaaaaaaaaaaao=o;wish o=caaaaaaaaaaaaaaaaaao;");
        Due.is("each term has its own 400", z.like(7, 8, 5), 1);
        ShownLibrary v = Due.with("word a 1 x;word b 1 aaaaaaaaaaaaaaaaaaax;word c 1 bbbbbbbbbbbbbbbbbbbx;word d 1 cax;"
            + "wish x=x;wish daaaaaaaaaaaaaaaaax=x;wish daaaaaaaaaaaaaaaaaax=x;");
        Due.is("400 put ins", v.like(0, 1, 4), 1);
        Due.is("401 put ins by d", v.like(0, 2, 4), 0);
    }

    /** 200 signs are not too many, 201 are. */
    private static void twoHundredSigns() {
        // b makes 10 + 10 times 19 signs of its row, the first of them an a
        ShownLibrary x = Due.with("word a 1 x;word b 1 ammmmmmmmmxxxxxxxxxx;"
            + "wish bmmmmmmmmmxxxxxxxxxx=o;wish bmmmmmmmmmyyyyyyyyyy=o;");
        Due.is("200 signs", x.like(0, 1, 4), 1);
        Due.is("200 signs, any order", x.like(0, 1, 6), 1);
        Due.change(x, 0, "mxo");
        Due.is("201 signs", x.like(0, 1, 4), 0);
        Due.is("201 signs, words stay", x.like(0, 1, 0), 1);
        Due.change(x, 0, "o");
        Due.is("one sign then", x.like(0, 1, 4), 1);
    }

    private static void teaching() {
        ShownLibrary x = Due.with("wish mxmoo=x;wish mxmox=mxx;taken mxo=x;taken mxy=myx;wish mox=x;wish y=x;");
        x.prove(4);
        x.step(0, 3, 0);
        x.step(0, 2, 0);
        Due.is("show 4", x.show(), 2);
        x.prove(0);
        x.step(0, 4, 2);
        x.step(0, 2, 0);
        Due.is("show 0", x.show(), 2);
        x.prove(1);
        x.step(0, 4, 2);
        Due.is("show 1", x.show(), 1);
        Due.is("what leans on 2", x.leans(2, 2), 1 + 2 + 16);
        Due.is("how many for 0", x.teach(0, 0, 0), 4);
        int[] due = {2, 3, 4, 0};
        for (int i = 0; i < 4; i++) {
            Due.is("place " + i, x.teach(0, 0, 10 + i), due[i]);
        }
        Due.is("behind the last", x.teach(0, 0, 14), Due.NONE);
        Due.is("place 23", x.teach(0, 0, 33), Due.NONE);
        Due.is("place 24", x.teach(0, 0, 34), Due.BAD);
        Due.is("what 9", x.teach(0, 0, 9), Due.BAD);
        Due.is("what 1", x.teach(0, 0, 1), Due.BAD);
        Due.is("what -1", x.teach(0, 0, -1), Due.BAD);
        Due.is("what min", x.teach(0, 0, Integer.MIN_VALUE), Due.BAD);
        Due.is("who knows 4", x.teach(0, 16, 0), 3);
        Due.is("0 comes behind 2, which it leans on", x.teach(0, 16, 12), 0);
        Due.is("who knows 2, 3, 4", x.teach(0, 28, 10), 0);
        Due.is("who knows 2 and 3", x.teach(0, 12, 10), 4);
        Due.is("who knows all", x.teach(0, 63, 0), 0);
        Due.is("who knows all, place 0", x.teach(0, 63, 10), Due.NONE);
        Due.is("who knows it alone", x.teach(0, 1, 0), 3);
        Due.is("a wished one", x.teach(5, 0, 0), 1);
        Due.is("a wished one, place 0", x.teach(5, 0, 10), 5);
        Due.is("a taken one", x.teach(2, 0, 10), 2);
        Due.is("known -1", x.teach(0, -1, 0), Due.BAD);
        Due.is("bits of none", x.teach(0, 64, 0), Due.BAD);
        Due.is("no such saying", x.teach(6, 0, 0), Due.BAD);
        Due.is("no such saying -1", x.teach(-1, 0, 0), Due.BAD);
    }

    public static void main(String[] args) {
        alike();
        asks();
        tooMuch();
        twoHundredSigns();
        teaching();
        Due.finish();
    }
}
