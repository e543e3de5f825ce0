/** The edges of places, fitting, the four kinds of steps and why one does not go, sentence by sentence. */
public final class EdgesStepsTest {
    private static final int USE = 0, BACK = 1, PUT_IN = 2, PUT_OUT = 3;
    /** A TERM of 19 SIGNS, 10 of them x. */
    private static final String TEN = "mmmmmmmmmxxxxxxxxxx";

    private static void goes(String text, int e, int kind, int which, int place, String want) {
        Due.goes(Due.proving(text, e), kind, which, place, want);
    }

    private static void stays(String text, int e, int kind, int which, int place, int want) {
        Due.stays(Due.proving(text, e), kind, which, place, want);
    }

    // ---- places, WITH, FITS

    private static void aPlaceIsASignWithItsTerms() {
        Due.says("A PLACE of a TERM: a sign of it (0: the first one) with the TERMS it has, a TERM itself.");
        String[] due = {"mmmxyommxyo", "mmmxymxyo", "mmmxxyo", "mmxmyyo", "mmxymoo"};
        for (int p = 0; p < due.length; p++) {
            goes("taken x=mxx;wish mmxyo=o;", 1, USE, 0, p, due[p]);
        }
        String[] byWords = {"mcxaycxay", "cmxxay", "cxmayay", "cxamyy"};
        for (int p = 0; p < byWords.length; p++) {
            goes("word a 1 x;word c 2 x;taken x=mxx;wish cxay=o;", 1, USE, 0, p, byWords[p]);
        }
        goes("taken x=mxx;wish o=x;", 1, USE, 0, 0, "moo");
    }

    private static void allNamesAtOnce() {
        Due.says("WITH: NAMES of a TERM replaced by TERMS, all at once.");
        goes("taken mxy=myx;wish myx=o;", 1, USE, 0, 0, "mxy");
        goes("taken mxmyz=mzmxy;wish mzmxy=o;", 1, USE, 0, 0, "mymzx");
        goes("taken mxmyz=mzmxy;wish mymzx=o;", 1, BACK, 0, 0, "mzmxy");
        goes("taken mxy=mmxyy;wish mymxz=o;", 1, USE, 0, 0, "mmymxzmxz");
        goes("word b 2 myx;wish bymxo=o;", 0, PUT_IN, 0, 0, "mmxoy");
        goes("word b 2 myx;wish byx=o;", 0, PUT_IN, 0, 0, "mxy");
        goes("word b 2 myx;wish mxy=o;", 0, PUT_OUT, 0, 0, "byx");
    }

    private static void eachNameByOneTermWhereverItIs() {
        Due.says("A TERM FITS another one with NAMES, if that is it WITH some (each NAME by one TERM wherever it is).");
        goes("taken mxx=x;wish mmxymxy=o;", 1, USE, 0, 0, "mxy");
        stays("taken mxx=x;wish mmxymyx=o;", 1, USE, 0, 0, -22);
        stays("taken mxx=x;wish mmxyx=o;", 1, USE, 0, 0, -22);
        stays("taken mxx=x;wish mxmxy=o;", 1, USE, 0, 0, -22);
        goes("taken mmxymyx=mxy;wish mmomxxmmxxo=o;", 1, USE, 0, 0, "momxx");
        stays("taken mmxymyx=mxy;wish mmomxxmmxyo=o;", 1, USE, 0, 0, -22);
        // unlike NAMES may be replaced by one and the same TERM
        goes("taken mxy=myx;wish moo=x;", 1, USE, 0, 0, "moo");
        goes("taken x=o;wish mmxyz=o;", 1, USE, 0, 0, "o");
        stays("taken o=mxx;wish mmxymxy=o;", 1, BACK, 0, 1, -22);
        goes("taken o=mxx;wish mmxymxy=o;", 1, BACK, 0, 0, "o");
    }

    private static void aTermsOwnNamesStay() {
        Due.says("A TERM FITS another one with NAMES, if that is it WITH some");
        stays("taken mox=x;wish myx=o;", 1, USE, 0, 0, -22);
        stays("taken mmxyz=x;wish mxy=o;", 1, USE, 0, 0, -22);
        stays("word a 1 x;taken ax=x;wish x=o;", 1, USE, 0, 0, -22);
        stays("taken o=x;wish x=o;", 1, USE, 0, 0, -22);
        stays("word a 1 x;word c 1 x;taken ax=x;wish cx=o;", 1, USE, 0, 0, -22);
        // a WORD and what it stands for are not the same SIGNS
        stays("word a 1 mxx;taken mxx=x;wish ax=o;", 1, USE, 0, 0, -22);
        stays("word a 1 mxx;taken ax=x;wish mxx=o;", 1, USE, 0, 0, -22);
    }

    private static void theRestOfTheTermStays() {
        Due.says("A STEP of a TERM at a PLACE");
        goes("taken mox=x;wish mmoymoz=o;", 1, USE, 0, 1, "mymoz");
        goes("taken mox=x;wish mmoymoz=o;", 1, USE, 0, 4, "mmoyz");
        goes("taken mox=x;wish mmoymoz=o;", 1, BACK, 0, 2, "mmmooymoz");
        goes("taken mox=x;wish mmoymoz=o;", 1, BACK, 0, 6, "mmoymomoz");
    }

    // ---- the four kinds

    private static void useOfTakenOrShown() {
        Due.says("0 USE of a SAYING that is TAKEN or SHOWN: the TERM there must FIT its left TERM; it becomes the right one WITH the same");
        ShownLibrary x = Due.with("word a 1 mxo;taken mxy=myx;wish ax=mxo;wish mox=mxo;wish mamoxmox=x;wish o=x;");
        x.prove(3);
        Due.goes(x, USE, 0, 0, "mmoxamox");
        Due.stays(x, USE, 1, 4, -21);
        Due.stays(x, USE, 2, 1, -21);
        Due.is("1 is shown", x.take(1, 1, 20), 1);
        Due.is("2 is shown", x.take(2, 1, 20), 1);
        Due.goes(x, USE, 1, 4, "mmoxmmoxo");
        Due.goes(x, USE, 2, 1, "mmxommoxo");
        Due.goes(x, USE, 0, 0, "mmmoxomxo");
        Due.is("1 is broken", Due.change(x, 0, "x"), 1);
        x.prove(3);
        Due.stays(x, USE, 1, 1, -21);
        Due.goes(x, USE, 2, 5, "mamoxmxo");
    }

    private static void backFromRightToLeft() {
        Due.says("1 BACK: from right to left");
        ShownLibrary x = Due.proving("taken mxo=x;taken mxx=o;wish x=mxo;wish mxo=x;", 2);
        Due.goes(x, BACK, 0, 0, "mxo");
        Due.stays(x, BACK, 1, 0, -22);
        Due.stays(x, BACK, 1, 2, -23);
        Due.goes(x, BACK, 0, 2, "mxmoo");
        Due.goes(x, USE, 1, 2, "mxo");
        Due.stays(x, BACK, 3, 0, -21);
        Due.is("show", x.show(), 3);
        x.prove(3);
        Due.goes(x, BACK, 2, 0, "x");
    }

    private static void putIn() {
        Due.says("2 PUT IN: a WORD's sign there: its MEANING WITH the TERMS behind it (x the first, y the second)");
        String words = "word a 1 mxmxo;word b 2 mymxax;";
        goes(words + "wish amyz=o;", 0, PUT_IN, 0, 0, "mmyzmmyzo");
        goes(words + "wish bymzo=o;", 0, PUT_IN, 0, 0, "mmzomyay");
        goes(words + "wish mabxyz=o;", 0, PUT_IN, 0, 1, "mmbxymbxyoz");
        goes(words + "wish mabxyz=o;", 0, PUT_IN, 0, 2, "mamymxaxz");
        goes("word a 1 o;word b 2 y;wish mamxybxz=o;", 0, PUT_IN, 0, 1, "mobxz");
        goes("word a 1 o;word b 2 y;wish mamxybxz=o;", 0, PUT_IN, 0, 5, "mamxyz");
        goes("word d 2 x;wish dmxyz=o;", 0, PUT_IN, 0, 0, "mxy");
    }

    private static void putOut() {
        Due.says("3 PUT OUT of a WORD: the TERM there must FIT its MEANING; it becomes the WORD with what x (and y) are.");
        String words = "word a 1 mxmxo;word b 2 mymxax;";
        goes(words + "wish mmyzmmyzo=o;", 0, PUT_OUT, 0, 0, "amyz");
        stays(words + "wish mmyzmmzyo=o;", 0, PUT_OUT, 0, 0, -22);
        goes(words + "wish mmzomyay=o;", 0, PUT_OUT, 1, 0, "bymzo");
        goes(words + "wish mxmmzomyay=o;", 0, PUT_OUT, 1, 2, "mxbymzo");
        // b has an a in it; what that stands for will not do
        stays(words + "wish mmzomymymyo=o;", 0, PUT_OUT, 1, 0, -22);
        goes("word a 1 x;word c 1 ax;wish mxy=o;", 0, PUT_OUT, 0, 0, "amxy");
        goes("word a 1 x;word c 1 ax;wish aamxy=o;", 0, PUT_OUT, 1, 1, "acmxy");
    }

    // ---- why one does not go

    private static void minus20() {
        Due.says("It does not GO: -20 no such PLACE");
        ShownLibrary x = Due.proving("word a 1 x;taken x=y;taken x=x;wish mxay=o;", 2);
        for (int kind = USE; kind <= PUT_OUT; kind++) {
            for (int place : new int[] {Due.MIN, -20, -1, 4, 5, 19, 20, 21, Due.MAX}) {
                Due.stays(x, kind, 0, place, -20);
            }
        }
        Due.goes(x, USE, 1, 3, "mxay");
        Due.goes(x, USE, 1, 0, "mxay");
        Due.goes(x, PUT_IN, 0, 2, "mxy");
        Due.stays(x, PUT_OUT, 0, 3, -20);
        Due.goes(x, PUT_OUT, 0, 2, "mxay");
        Due.goes(x, PUT_OUT, 0, 3, "mxaay");
    }

    private static void minus21OfUseAndBack() {
        Due.says("-21 (USE, BACK) no such SAYING, neither TAKEN nor SHOWN, or the wish itself");
        ShownLibrary x = Due.with("word a 1 x;taken x=x;wish ax=x;wish ax=x;wish x=x;wish ao=ao;");
        Due.is("2 is shown", x.take(2, 1, 20), 1);
        Due.is("2 is broken", Due.change(x, 0, "o"), 1);
        Due.is("3 is shown", x.take(3, 0, 20), 0);
        x.prove(4);
        for (int kind = USE; kind <= BACK; kind++) {
            for (int none : new int[] {Due.MIN, -1, 5, 23, 24, 31, 32, 36, Due.MAX}) {
                Due.stays(x, kind, none, 0, -21);
            }
            Due.stays(x, kind, 1, 0, -21);
            Due.stays(x, kind, 2, 0, -21);
            Due.stays(x, kind, 4, 0, -21);
            Due.goes(x, kind, 0, 0, "ao");
            Due.goes(x, kind, 3, 0, "ao");
        }
        x.prove(2);
        Due.stays(x, USE, 2, 0, -21);
        Due.stays(x, BACK, 2, 1, -21);
    }

    private static void minus21OfPutOut() {
        Due.says("(PUT OUT) no such WORD");
        ShownLibrary x = Due.proving("word d 1 x;word c 1 x;wish x=o;wish x=o;wish x=o;", 0);
        for (int none : new int[] {Due.MIN, -1, 2, 3, 4, 31, 32, Due.MAX}) {
            Due.stays(x, PUT_OUT, none, 0, -21);
        }
        Due.goes(x, PUT_OUT, 0, 0, "dx");
        Due.goes(x, PUT_OUT, 1, 0, "cdx");
        Due.stays(Due.proving("wish x=o;", 0), PUT_OUT, 0, 0, -21);
    }

    private static void minus21OfPutIn() {
        Due.says("(PUT IN) no WORD's sign there");
        ShownLibrary x = Due.proving("word a 1 x;wish mmxmyzao=o;", 0);
        for (int p = 0; p < 8; p++) {
            if (p != 6) {
                Due.stays(x, PUT_IN, 0, p, -21);
            }
        }
        Due.goes(x, PUT_IN, 0, 6, "mmxmyzo");
        Due.stays(x, PUT_IN, 0, 6, -21);
        Due.stays(Due.proving("wish x=o;", 0), PUT_IN, 0, 0, -21);
    }

    private static void minus22() {
        Due.says("-22 it does not FIT");
        ShownLibrary x = Due.proving("word a 1 mxo;taken mox=o;taken o=mox;wish mxmxo=o;", 2);
        Due.stays(x, USE, 0, 0, -22);
        Due.stays(x, USE, 0, 2, -22);
        Due.stays(x, USE, 0, 4, -22);
        Due.stays(x, BACK, 1, 0, -22);
        Due.stays(x, BACK, 1, 3, -22);
        Due.stays(x, PUT_OUT, 0, 0, -22);
        Due.stays(x, PUT_OUT, 0, 1, -22);
        Due.goes(x, PUT_OUT, 0, 2, "mxax");
        // what it should FIT is longer than what is left of the TERM
        ShownLibrary y = Due.proving("taken mmxyz=o;wish mxmxy=o;", 1);
        Due.stays(y, USE, 0, 0, -22);
        Due.stays(y, USE, 0, 2, -22);
        Due.stays(y, USE, 0, 4, -22);
    }

    private static void minus23() {
        Due.says("-23 a NAME that it becomes is replaced by nothing");
        String words = "word a 1 o;word b 2 mxo;word c 2 moy;";
        ShownLibrary x = Due.proving(words + "taken x=mxy;taken o=z;taken mxz=mxx;wish moo=o;", 3);
        Due.stays(x, USE, 0, 0, -23);
        Due.stays(x, USE, 1, 1, -23);
        Due.goes(x, BACK, 1, 1, "moo");
        Due.stays(x, BACK, 2, 0, -23);
        Due.goes(x, USE, 2, 0, "moo");
        Due.stays(x, PUT_OUT, 0, 1, -23);
        Due.stays(x, PUT_OUT, 1, 0, -23);
        Due.stays(x, PUT_OUT, 2, 0, -23);
        ShownLibrary y = Due.proving(words + "wish bxy=o;", 0);
        Due.goes(y, PUT_IN, 0, 0, "mxo");
        Due.stays(y, PUT_OUT, 1, 0, -23);
    }

    private static void minus24() {
        Due.says("-24 it would have more than 20 SIGNS");
        String words = "word a 1 x;word b 1 aax;taken x=ax;taken ax=x;", as = "a".repeat(16);
        for (int many = 18; many <= 20; many++) {
            String left = "a".repeat(many - 1) + "x", more = "a" + left;
            int[][] steps = {{USE, 0, 0}, {BACK, 1, 0}, {USE, 0, many - 1}, {BACK, 1, many - 1}, {PUT_OUT, 0, many - 1}};
            for (int[] s : steps) {
                if (many < 20) {
                    goes(words + "wish " + left + "=o;", 2, s[0], s[1], s[2], more);
                } else {
                    stays(words + "wish " + left + "=o;", 2, s[0], s[1], s[2], -24);
                }
            }
        }
        goes(words + "wish ba" + as + "x=o;", 2, PUT_IN, 0, 0, "aaa" + as + "x");
        ShownLibrary x = Due.proving(words + "wish bba" + as + "x=o;", 2);
        Due.stays(x, PUT_IN, 0, 0, -24);
        Due.stays(x, PUT_IN, 0, 1, -24);
        Due.goes(x, PUT_IN, 0, 2, "bb" + as + "x");
        Due.goes(x, PUT_IN, 0, 1, "baa" + as + "x");
        goes("taken x=" + TEN + ";wish y=o;", 1, USE, 0, 0, TEN.replace('x', 'y'));
        stays("taken x=" + TEN + ";wish mxy=o;", 1, USE, 0, 0, -24);
        stays("taken x=" + TEN + ";wish mxy=o;", 1, USE, 0, 1, -24);
        stays("taken x=" + TEN + ";wish " + TEN + "=o;", 1, USE, 0, 0, -24);
        goes("word a 1 x;taken x=" + TEN + ";wish ay=o;", 1, USE, 0, 1, "a" + TEN.replace('x', 'y'));
    }

    private static void theFirstOfThem() {
        Due.says("-24 it would have more than 20 SIGNS; the first.");
        ShownLibrary x = Due.proving("word a 1 x;taken x=y;wish mxy=o;", 1);
        Due.stays(x, USE, 9, 3, -20);
        Due.stays(x, BACK, 1, -1, -20);
        Due.stays(x, PUT_IN, 9, 3, -20);
        Due.stays(x, PUT_OUT, 9, 3, -20);
        // -22 ahead of -23
        stays("taken mxo=z;wish mxy=o;", 1, USE, 0, 0, -22);
        stays("taken mxo=z;wish mxo=o;", 1, USE, 0, 0, -23);
        stays("word a 2 mxo;wish mxy=o;", 0, PUT_OUT, 0, 0, -22);
        // -22 ahead of -24
        stays("taken mxx=" + TEN + ";wish mxy=o;", 1, USE, 0, 0, -22);
        stays("taken mxx=" + TEN + ";wish mmxymxy=o;", 1, USE, 0, 0, -24);
        // -23 ahead of -24, wherever the NAME is
        stays("taken x=y" + ";wish mxy=o;", 1, USE, 0, 0, -23);
        stays("taken x=mmmmmmmmmyxxxxxxxxx;wish mxy=o;", 1, USE, 0, 0, -23);
        stays("taken x=mmmmmmmmmxxxxxxxxxy;wish mxy=o;", 1, USE, 0, 0, -23);
        stays("taken mmmmmmmmmxxxxxxxxxy=x;wish mxy=o;", 1, BACK, 0, 0, -23);
    }

    public static void main(String[] args) {
        aPlaceIsASignWithItsTerms();
        allNamesAtOnce();
        eachNameByOneTermWhereverItIs();
        aTermsOwnNamesStay();
        theRestOfTheTermStays();
        useOfTakenOrShown();
        backFromRightToLeft();
        putIn();
        putOut();
        minus20();
        minus21OfUseAndBack();
        minus21OfPutOut();
        minus21OfPutIn();
        minus22();
        minus23();
        minus24();
        theFirstOfThem();
        Due.finish();
    }
}
