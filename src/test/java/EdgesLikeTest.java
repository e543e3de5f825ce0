/** The edges of sayings that are like, of finding and of teaching, sentence by sentence. */
public final class EdgesLikeTest {
    /** Whether two SAYINGS are LIKE, for each how from 0 to 7, either way round. */
    private static void likes(String words, String one, String other, String due) {
        ShownLibrary x = Due.with(words + "wish " + one + ";wish " + other + ";");
        for (int how = 0; how < 8; how++) {
            int want = due.charAt(how) - '0';
            Due.is("like of " + one + " and " + other + ", how " + how, x.like(0, 1, how), want);
            Due.is("like of " + other + " and " + one + ", how " + how, x.like(1, 0, how), want);
            Due.is("find of " + one + ", how " + how + ", many", x.find(0, how, 0), want);
            Due.is("find of " + one + ", how " + how + ", least", x.find(0, how, 1), want == 1 ? 1 : Due.NONE);
            Due.is("find of " + other + ", how " + how + ", least", x.find(1, how, 1), want == 1 ? 0 : Due.NONE);
        }
    }

    private static final String ALWAYS = "11111111", NEVER = "00000000", BY_MATES = "00110011", BY_SIDES = "01010101",
        BY_BOTH = "00010001", BY_WORDS = "00001111";

    // ---- LIKE

    private static void otherNamesForNames() {
        Due.says("LIKE: two SAYINGS that become one by other NAMES for NAMES (unlike for unlike)");
        for (String names : new String[] {"xyz", "xzy", "yxz", "yzx", "zxy", "zyx"}) {
            StringBuilder b = new StringBuilder();
            for (char c : "mmxymzo=mxmyz".toCharArray()) {
                b.append(c >= 'x' ? names.charAt(c - 'x') : c);
            }
            likes("", "mmxymzo=mxmyz", b.toString(), ALWAYS);
            likes("", "x=o", names.charAt(0) + "=o", ALWAYS);
            likes("", "mxy=y", "m" + names.charAt(0) + names.charAt(1) + "=" + names.charAt(1), ALWAYS);
        }
        likes("", "mxy=o", "mxx=o", NEVER);
        likes("", "mxy=o", "mzz=o", NEVER);
        likes("", "x=y", "x=x", NEVER);
        likes("", "x=y", "z=z", NEVER);
        likes("", "mxmyz=o", "mxmyx=o", NEVER);
        likes("", "mxy=z", "mxy=x", NEVER);
        likes("", "mxo=x", "mxo=y", NEVER);
        likes("", "x=o", "o=o", NEVER);
        likes("", "mxo=o", "moo=o", NEVER);
        likes("", "o=o", "o=o", ALWAYS);
        likes("", "x=x", "z=z", ALWAYS);
        likes("", "mmxyz=o", "mxmyz=o", BY_MATES);
        likes("", "mxy=o", "x=o", NEVER);
    }

    private static void sidesMayBeChanged() {
        Due.says("how (bits): 1 their sides may be changed");
        likes("", "x=o", "o=x", BY_SIDES);
        likes("", "x=o", "o=z", BY_SIDES);
        likes("", "mxo=y", "x=mzo", BY_SIDES);
        likes("", "mxy=x", "y=myx", BY_SIDES);
        likes("", "mxy=x", "x=myx", BY_BOTH);
        likes("", "x=y", "y=x", ALWAYS);
        likes("", "mxy=myx", "myx=mxy", ALWAYS);
        // by other NAMES the one side is what the other one was, up to mates
        likes("", "mmxyz=mxmyz", "mxmyz=mmxyz", "01110111");
        likes("", "mmxyz=mxmyz", "mzmxy=mmzxy", "01110111");
        likes("", "mmxyz=mox", "mzo=mxmyz", BY_BOTH);
        likes("", "mxo=moo", "moo=moo", NEVER);
    }

    private static void matesInAnyOrder() {
        Due.says("2 mates of m may be in any order");
        likes("", "mxo=x", "mox=x", BY_MATES);
        likes("", "mxy=x", "mxy=y", BY_MATES);
        likes("", "mmxyo=x", "momyx=x", BY_MATES);
        likes("", "mmxyo=x", "momxy=y", BY_MATES);
        likes("", "mmxyz=x", "mxmyz=x", NEVER);
        likes("", "mmxyz=z", "mxmyz=x", BY_MATES);
        likes("", "mmxymyz=mxz", "mmzymyx=mzx", ALWAYS);
        likes("", "mmxymyz=mxz", "mmyzmyx=mxz", BY_MATES);
        likes("", "mmxymyz=mxz", "mmyzmyx=myz", NEVER);
        likes("", "mmoomox=o", "mmxomoo=o", BY_MATES);
        // the mates of a WORD stay where they are; m in them, or about them, have theirs in any order
        likes("word a 2 x;", "axo=x", "aox=x", NEVER);
        likes("word a 2 mxy;", "axo=x", "aox=x", "00000011");
        likes("word a 2 mxy;", "amxoo=x", "amoxo=x", BY_MATES);
        likes("word a 2 mxy;", "moaxy=o", "maxyo=o", BY_MATES);
        likes("word a 2 mxy;", "mayxaxy=o", "maxyayx=o", ALWAYS);
        likes("word a 2 mxy;", "maxxaxy=x", "mayxayy=y", BY_MATES);
        likes("word a 1 x;", "maxo=x", "moax=x", BY_MATES);
        likes("word a 1 o;word b 1 o;", "maxby=x", "mbyax=x", "00111111");
        likes("word a 1 o;word b 1 o;", "maxby=x", "maybx=x", BY_WORDS);
    }

    private static void allWordsArePutIn() {
        Due.says("4 all WORDS are put in first, one by one, the first one of the TERM again and again");
        likes("word a 1 mxx;", "ax=x", "mxx=x", BY_WORDS);
        likes("word a 1 mxx;", "x=ax", "z=mzz", BY_WORDS);
        likes("word a 1 mxx;", "x=ax", "mzz=z", "00000101");
        likes("word a 1 mxo;", "ax=x", "mox=x", "00000011");
        likes("word a 1 mxo;", "ax=x", "y=moy", "00000001");
        likes("word a 1 x;", "aax=x", "aaax=x", BY_WORDS);
        likes("word a 1 x;word b 1 x;", "abx=x", "bax=x", BY_WORDS);
        likes("word a 1 x;word b 1 ax;word c 1 bbx;word d 1 cbax;", "dddx=o", "x=o", BY_WORDS);
        likes("word a 2 myx;", "axmyz=x", "mmyzx=x", BY_WORDS);
        likes("word a 2 y;", "axy=x", "y=x", BY_WORDS);
        likes("word a 2 y;", "axy=y", "y=y", BY_WORDS);
        likes("word a 2 y;", "axo=x", "o=x", BY_WORDS);
        likes("word a 1 mxx;", "amxy=x", "mmxymxy=x", BY_WORDS);
        likes("word a 1 mxx;", "amxy=x", "mmxymyx=x", "00000011");
        likes("word a 1 mxx;", "ax=x", "mxy=x", NEVER);
        likes("word a 1 mxx;", "x=amayy", "x=mmmyymyyz", NEVER);
        likes("word a 1 mxx;", "o=amayy", "o=mmmxxxmmxxx", BY_WORDS);
        likes("word a 1 x;", "ax=o", "ay=o", ALWAYS);
        likes("word a 1 x;word b 1 x;", "ax=o", "bx=o", BY_WORDS);
    }

    /** Row of so many MEANINGS: a doubles its TERM, so 2 to the n x and as many m but one. */
    private static void neverMoreThan200Signs() {
        Due.says("(they are not LIKE, if a TERM of theirs ever has more than 200 SIGNS");
        likes("word a 1 mxx;", "aaaaaax=o", "aaaaaay=o", ALWAYS);
        likes("word a 1 mxx;", "aaaaaaax=o", "aaaaaaay=o", "11110000");
        likes("word a 1 mxx;", "o=aaaaaaax", "o=aaaaaaay", "11110000");
        likes("word a 1 mxx;", "o=x", "o=aaaaaaay", NEVER);
        // 10 TERMS of 19 SIGNS behind 9 m are 199 SIGNS, and one more a of moo, x or mxo
        String ten = "mmmmmmmmmxxxxxxxxxx", words = "word b 1 " + ten + ";word a 1 ";
        String left = "b" + ten, other = "bmmmmmmmmmyyyyyyyyyy";
        likes(words + "x;", left + "=o", other + "=o", ALWAYS);
        // left is a of 199 SIGNS: 200 with its letter, while it stands there
        likes("word a 1 x;word b 1 a" + ten + ";", left + "=o", other + "=o", ALWAYS);
        likes("word a 1 mxo;word b 1 a" + ten + ";", left + "=o", other + "=o", "11110000");
        likes("word a 1 o;word b 1 a" + ten + ";", left + "=o", other + "=o", ALWAYS);
        // short in the end, but too long on the way; not so when the first WORD drops it
        likes("word a 1 o;word b 1 mxx;", "aaabbbbbbbx=o", "aaabbbbbbby=o", ALWAYS);
        likes("word a 2 o;word b 1 mxx;", "abbbbbbbxx=o", "abbbbbbbyy=o", ALWAYS);
        likes("word a 1 o;word b 1 mxx;word c 1 bbbbbbbx;", "cao=o", "caao=o", NEVER);
        likes("word a 1 o;word b 1 mxx;word c 1 bbbbbbbx;", "aco=o", "aaco=o", BY_WORDS);
    }

    private static void notMoreThan400PutIn() {
        Due.says("or a WORD is left when 400 have been put in)");
        String as = "a".repeat(19) + "x", bs = "b".repeat(19) + "x";
        // b is 20 PUT INS, c is 381, d is 400 or 401
        String words = "word a 1 x;word b 1 " + as + ";word c 1 " + bs + ";";
        likes(words, bs + "=o", bs.replace('x', 'y') + "=o", ALWAYS);
        likes(words, "cx=o", "x=o", BY_WORDS);
        likes(words, "c" + "a".repeat(18) + "x=o", "x=o", BY_WORDS);
        likes(words + "word d 1 cx;", "d" + "a".repeat(18) + "x=o", "x=o", BY_WORDS);
        likes(words + "word d 1 cx;", "a" + "d" + "a".repeat(17) + "x=o", "x=o", BY_WORDS);
        likes(words + "word d 1 cax;", "d" + "a".repeat(17) + "x=o", "x=o", BY_WORDS);
        likes(words + "word d 1 cax;", "d" + "a".repeat(18) + "x=o", "x=o", NEVER);
        likes(words, "cbx=o", "x=o", NEVER);
        likes(words, "o=cbx", "o=cby", "11110000");
        likes(words, "ccx=o", "ccy=o", "11110000");
        // each TERM has 400
        likes(words, "cx=cx", "x=x", BY_WORDS);
    }

    private static void likeAndItsNumbers() {
        Due.says("Whether two SAYINGS are LIKE, how 0 to 7 (1, 0). BAD.");
        ShownLibrary x = Due.with("word a 1 mxx;wish mxo=x;taken mxo=x;wish aaaaaaax=o;");
        for (int how = 0; how < 8; how++) {
            Due.is("like(0, 0, " + how + ")", x.like(0, 0, how), 1);
            Due.is("like(0, 1, " + how + ")", x.like(0, 1, how), 1);
            Due.is("like(2, 2, " + how + ")", x.like(2, 2, how), how < 4 ? 1 : 0);
        }
        for (int how : new int[] {Due.MIN, -1, 8, 9, 16, Due.MAX}) {
            Due.is("like(0, 1, " + how + ")", x.like(0, 1, how), Due.BAD);
            Due.is("find(0, " + how + ", 0)", x.find(0, how, 0), Due.BAD);
            Due.is("find(0, " + how + ", 1)", x.find(0, how, 1), Due.BAD);
        }
    }

    // ---- find

    private static void otherSayings() {
        Due.says("Other SAYINGS that are LIKE one: how many (what 0), the least (1; NONE). BAD.");
        ShownLibrary x = Due.with("wish mxo=x;wish o=o;taken myo=y;wish z=mzo;wish moz=z;wish moz=o;");
        int[][] many = {{1, 2, 2, 3}, {0, 0, 0, 0}, {1, 2, 2, 3}, {0, 2, 0, 3}, {0, 0, 2, 3}, {0, 0, 0, 0}};
        int[][] least = {{2, 2, 2, 2}, {-4, -4, -4, -4}, {0, 0, 0, 0}, {-4, 0, -4, 0}, {-4, -4, 0, 0}, {-4, -4, -4, -4}};
        for (int e = 0; e < 6; e++) {
            for (int how = 0; how < 8; how++) {
                Due.is("find(" + e + ", " + how + ", 0)", x.find(e, how, 0), many[e][how % 4]);
                Due.is("find(" + e + ", " + how + ", 1)", x.find(e, how, 1), least[e][how % 4]);
            }
        }
        for (int what : new int[] {Due.MIN, -1, 2, Due.MAX}) {
            Due.is("find(0, 0, " + what + ")", x.find(0, 0, what), Due.BAD);
        }
        ShownLibrary y = new ShownLibrary();
        for (int i = 0; i < 24; i++) {
            Due.tell(y, "wish x=o;");
        }
        for (int e = 0; e < 24; e += 23) {
            Due.is("23 others", y.find(e, 0, 0), 23);
            Due.is("the least of them", y.find(e, 0, 1), e == 0 ? 1 : 0);
        }
        ShownLibrary z = Due.with("wish x=o;");
        Due.is("there is no other", z.find(0, 7, 0), 0);
        Due.is("the least of none", z.find(0, 7, 1), Due.NONE);
        // all states
        ShownLibrary v = Due.with("word a 1 x;wish ax=x;taken ax=x;wish ax=x;wish ax=x;");
        v.take(0, 1, 9);
        Due.change(v, 0, "o");
        v.take(2, 1, 9);
        Due.is("taken, shown and wished", v.find(0, 0, 0), 3);
    }

    // ---- TEACHING

    private static void itselfAndWhatItLeansOn() {
        Due.says("TEACHING of a SAYING to one who knows some (bits): itself and what it LEANS on, but those");
        ShownLibrary x = Due.with("word a 1 x;taken mxo=x;taken mxy=myx;wish mox=x;wish ax=x;wish mox=x;");
        x.take(2, 2, 3);
        x.take(3, 1, 3);
        for (int known = 0; known < 32; known++) {
            int[] all = {1, 2, 4 + 2 + 1, 8, 16};
            for (int e = 0; e < 5; e++) {
                int lessons = all[e] & ~known;
                Due.is("teach(" + e + ", " + known + ", 0)", x.teach(e, known, 0), Integer.bitCount(lessons));
                int place = 10;
                for (int f = 0; f < 5; f++) {
                    if ((lessons >> f & 1) != 0) {
                        Due.is("teach(" + e + ", " + known + ", " + place + ")", x.teach(e, known, place), f);
                        place++;
                    }
                }
                Due.is("teach(" + e + ", " + known + ", " + place + ")", x.teach(e, known, place), Due.NONE);
            }
        }
        Due.change(x, 0, "o");
        Due.is("a broken one by itself", x.teach(3, 0, 0), 1);
        Due.is("a broken one", x.teach(3, 0, 10), 3);
    }

    /** 24 SAYINGS, each of which leans on all behind it; the last one is TAKEN. */
    private static ShownLibrary chain() {
        ShownLibrary x = new ShownLibrary();
        for (int i = 0; i < 23; i++) {
            Due.tell(x, "wish x=mxo;");
        }
        Due.tell(x, "taken x=mxo;");
        for (int e = 22; e >= 0; e--) {
            x.prove(e);
            x.step(0, e + 1, 0);
            Due.is("show " + e, x.show(), 1);
        }
        return x;
    }

    private static void theLeastThatLeansOnNoOther() {
        Due.says("again and again the least one that LEANS on no other of them that is still to come.");
        ShownLibrary x = chain();
        Due.is("all 24", x.teach(0, 0, 0), 24);
        for (int i = 0; i < 24; i++) {
            Due.is("teach(0, 0, " + (10 + i) + ")", x.teach(0, 0, 10 + i), 23 - i);
        }
        Due.is("all but 5", x.teach(0, 32, 0), 23);
        Due.is("6 comes ahead of 4", x.teach(0, 32, 10 + 17), 6);
        Due.is("4 comes behind 6", x.teach(0, 32, 10 + 18), 4);
        Due.is("none at the last place", x.teach(0, 32, 33), Due.NONE);
        Due.is("who knows all", x.teach(0, (1 << 24) - 1, 0), 0);
        Due.is("who knows all, place 0", x.teach(0, (1 << 24) - 1, 10), Due.NONE);
        Due.is("who knows all but 0", x.teach(0, (1 << 24) - 2, 10), 0);
        Due.is("bits of none", x.teach(0, 1 << 24, 0), Due.BAD);
        Due.is("bits of none, and all", x.teach(0, (1 << 25) - 1, 0), Due.BAD);
        // 2 leans on 4, and 0 on 1 and 2: 1 is ready ahead of 4, 3 is not asked for
        ShownLibrary y = Due.with("wish mxo=y;wish x=x;wish mxo=mox;taken o=o;taken mxy=myx;wish mmxoo=momox;");
        y.take(1, 0, 9);
        Due.is("2 by 4", y.take(2, 1, 3), 1);
        y.prove(5);
        y.step(0, 1, 0);
        y.step(0, 2, 1);
        y.step(0, 3, 4);
        y.step(0, 4, 0);
        Due.is("5 by all of them", y.show(), 4);
        int[] due = {1, 3, 4, 2, 5};
        for (int i = 0; i < 5; i++) {
            Due.is("teach(5, 0, " + (10 + i) + ")", y.teach(5, 0, 10 + i), due[i]);
        }
        Due.is("who knows 4: 2 is ready at once", y.teach(5, 16, 11), 2);
        Due.is("who knows 4: 3 comes then", y.teach(5, 16, 12), 3);
    }

    private static void teachAndItsNumbers() {
        Due.says("TEACHING of a SAYING: how many (what 0); 10 and i: the one at place i (0 to 23; NONE). BAD: also known below 0, bits of none.");
        ShownLibrary x = Due.with("wish x=x;wish x=y;");
        Due.is("how many", x.teach(1, 0, 0), 1);
        Due.is("place 0", x.teach(1, 0, 10), 1);
        for (int i = 1; i <= 23; i++) {
            Due.is("place " + i, x.teach(1, 0, 10 + i), Due.NONE);
        }
        for (int what : new int[] {Due.MIN, -1, 1, 2, 8, 9, 34, 35, Due.MAX}) {
            Due.is("what " + what, x.teach(1, 0, what), Due.BAD);
        }
        for (int known : new int[] {Due.MIN, -1, 4, 5, 1 << 23, 1 << 30, Due.MAX}) {
            Due.is("known " + known, x.teach(1, known, 0), Due.BAD);
            Due.is("known " + known + ", place 0", x.teach(1, known, 10), Due.BAD);
        }
        Due.is("known 3", x.teach(1, 3, 0), 0);
        Due.is("known 1", x.teach(1, 1, 0), 1);
        ShownLibrary y = chain();
        Due.is("known of all 24", y.teach(23, (1 << 24) - 1, 0), 0);
    }

    public static void main(String[] args) {
        otherNamesForNames();
        sidesMayBeChanged();
        matesInAnyOrder();
        allWordsArePutIn();
        neverMoreThan200Signs();
        notMoreThan400PutIn();
        likeAndItsNumbers();
        otherSayings();
        itselfAndWhatItLeansOn();
        theLeastThatLeansOnNoOther();
        teachAndItsNumbers();
        Due.finish();
    }
}
