/** The edges of small worlds, sentence by sentence; what a term is in a world is worked out here once more. */
public final class EdgesWorldsTest {
    private static final int[] HOW_MANY = {0, 1, 32, 59049};
    /** Each object has calls for so many questions only. */
    private static final int MOST_CALLS = 480;

    private static int at;

    /** What the TERM is that begins at a place, in a WORLD of n things. */
    private static int thing(String t, int n, int world, int[] names) {
        char c = t.charAt(at);
        at++;
        if (c == 'o') {
            return world % n;
        }
        if (c != 'm') {
            return names[c - 'x'];
        }
        int i = thing(t, n, world, names);
        int j = thing(t, n, world, names);
        int figures = world / n;
        for (int k = 0; k < n * i + j; k++) {
            figures /= n;
        }
        return figures % n;
    }

    private static int thing(String t, int n, int world, int x, int y, int z) {
        at = 0;
        return thing(t, n, world, new int[] {x, y, z});
    }

    private static boolean isSo(String saying, int n, int world) {
        String[] sides = saying.split("=");
        for (int k = 0; k < n * n * n; k++) {
            int x = k % n, y = k / n % n, z = k / n / n;
            if (thing(sides[0], n, world, x, y, z) != thing(sides[1], n, world, x, y, z)) {
                return false;
            }
        }
        return true;
    }

    private static void asWorkedOut(String words, String saying, String plain, int n, int from, int step) {
        ShownLibrary x = Due.with(words + "wish " + saying + ";");
        int calls = 10;
        for (int world = from; world < HOW_MANY[n]; world += step) {
            Due.is(words + saying + " in " + world + " of " + n, x.holds(0, n, world), isSo(plain, n, world) ? 1 : 0);
            calls++;
            if (calls > MOST_CALLS) {
                x = Due.with(words + "wish " + saying + ";");
                calls = 10;
            }
        }
    }

    private static void worldsAreNumbered() {
        Due.says("A WORLD of n things (1 to 3): what o is, and a table for m (m of things i and j: figure n i + j).");
        String[] sayings = {"moo=o", "mxo=x", "mox=x", "mxy=myx", "mxx=x", "mxx=o", "mxy=x", "mxy=y", "mxy=o",
            "x=y", "o=x", "mmxyz=mxmyz", "mmxoy=mxmoy", "mxmyz=mzmyx", "x=x", "z=mzz", "mmooo=momoo", "moz=mzo"};
        for (String s : sayings) {
            for (int n = 1; n <= 3; n++) {
                asWorkedOut("", s, s, n, 0, n < 3 ? 1 : 131);
            }
        }
        Due.says("WORLDS are numbered: o the lowest figure to the base n, then the figures of the table.");
        asWorkedOut("", "moo=o", "moo=o", 3, 1, 7);
        asWorkedOut("", "mxo=x", "mxo=x", 3, 58000, 1);
        // m of i and j is i: 0 0 1 1, and 0 0 0 1 1 1 2 2 2
        ShownLibrary x = Due.with("wish mxy=x;wish mxy=y;wish mxo=x;wish mox=o;");
        int first2 = 2 * (4 + 8), first3 = 3 * (27 + 81 + 243 + 2 * (729 + 2187 + 6561));
        for (int o = 0; o < 3; o++) {
            Due.is("i of 3, o " + o, x.holds(0, 3, first3 + o), 1);
            Due.is("i of 3 is not j, o " + o, x.holds(1, 3, first3 + o), 0);
            Due.is("mxo is x, o " + o, x.holds(2, 3, first3 + o), 1);
            Due.is("mox is o, o " + o, x.holds(3, 3, first3 + o), 1);
        }
        for (int o = 0; o < 2; o++) {
            Due.is("i of 2, o " + o, x.holds(0, 2, first2 + o), 1);
            Due.is("i of 2 is not j, o " + o, x.holds(1, 2, first2 + o), 0);
        }
    }

    private static void wordsByTheirMeaning() {
        Due.says("A SAYING HOLDS in it, if both TERMS are one, whatever things x, y, z are (WORDS by their MEANING).");
        String words = "word c 1 mxo;word a 2 mycx;word d 2 mxayx;word b 1 o;";
        String[][] pairs = {{"cx=x", "mxo=x"}, {"axy=myx", "mymxo=myx"}, {"dxy=x", "mxmxmyo=x"}, {"bx=x", "o=x"},
            {"axcy=o", "mmyomxo=o"}, {"dxmyz=acyz", "mxmxmmyzo=mzmmyoo"}, {"bbx=bdxy", "o=o"}, {"daxyx=x", "mmymxomxmmymxoo=x"}};
        for (String[] p : pairs) {
            for (int n = 1; n <= 3; n++) {
                asWorkedOut(words, p[0], p[1], n, 0, n < 3 ? 1 : 137);
            }
        }
        ShownLibrary x = Due.with("word a 1 x;wish ax=o;wish ax=x;");
        Due.is("a is x: ax=o", x.holds(0, 2, 0), 0);
        Due.is("a is x: ax=x", x.holds(1, 2, 0), 1);
        Due.change(x, 0, "o");
        Due.is("a is o: ax=o", x.holds(0, 2, 0), 1);
        Due.is("a is o: ax=x", x.holds(1, 2, 0), 0);
    }

    private static void whateverXYZAre() {
        Due.says("if both TERMS are one, whatever things x, y, z are");
        // m is 0 but for 1 and 1; of three things it is 0 but for 2 and 2
        ShownLibrary x = Due.with("wish mxy=mxx;wish mzy=mzz;wish mxz=o;wish mxmyz=o;wish z=o;wish y=o;wish x=o;wish o=o;");
        int and2 = 2 * 8, last3 = 3 * 2 * 6561;
        int[] due = {0, 0, 0, 0, 0, 0, 0, 1};
        for (int e = 0; e < due.length; e++) {
            Due.is("in and: " + e, x.holds(e, 2, and2), due[e]);
            Due.is("of three things: " + e, x.holds(e, 3, last3), due[e]);
            Due.is("of one thing: " + e, x.holds(e, 1, 0), 1);
        }
    }

    private static void noSuchWorld() {
        Due.says("Whether a SAYING HOLDS in a WORLD of n things (1, 0). BAD: also no such WORLD.");
        ShownLibrary x = Due.with("wish x=x;taken x=y;");
        for (int n = 1; n <= 3; n++) {
            for (int world : new int[] {0, HOW_MANY[n] - 1}) {
                Due.is("holds(0, " + n + ", " + world + ")", x.holds(0, n, world), 1);
                Due.is("holds(1, " + n + ", " + world + ")", x.holds(1, n, world), n == 1 ? 1 : 0);
            }
            for (int world : new int[] {Due.MIN, -1, HOW_MANY[n], HOW_MANY[n] + 1, Due.MAX}) {
                Due.is("holds(0, " + n + ", " + world + ")", x.holds(0, n, world), Due.BAD);
            }
        }
        for (int n : new int[] {Due.MIN, -1, 0, 4, 5, Due.MAX}) {
            Due.is("holds(0, " + n + ", 0)", x.holds(0, n, 0), Due.BAD);
        }
    }

    /** How many WORLDS there are in which all of some hold, the least of them, and the least in which one does not. */
    private static void asCounted(String[] taken, String wish) {
        StringBuilder text = new StringBuilder();
        for (String t : taken) {
            text.append("taken ").append(t).append(';');
        }
        ShownLibrary x = Due.with(text + "wish " + wish + ";");
        for (int n = 1; n <= 2; n++) {
            int many = 0, least = Due.NONE, denied = Due.NONE;
            for (int world = HOW_MANY[n] - 1; world >= 0; world--) {
                boolean all = true;
                for (String t : taken) {
                    all &= isSo(t, n, world);
                }
                if (all) {
                    many++;
                    least = world;
                    denied = isSo(wish, n, world) ? denied : world;
                }
            }
            Due.is(text + " worlds(" + n + ", 0)", x.worlds(n, 0), many);
            Due.is(text + " worlds(" + n + ", 1)", x.worlds(n, 1), least);
            Due.is(text + " denied(" + wish + ", " + n + ")", x.denied(taken.length, n), denied);
            for (int e = 0; e < taken.length; e++) {
                Due.is(text + " denied(" + e + ", " + n + ")", x.denied(e, n), Due.NONE);
            }
        }
    }

    private static void denied() {
        Due.says("DENIED with n (1 or 2): a WORLD of n things in which all TAKEN ones HOLD and it does not.");
        String[] wishes = {"mxy=myx", "mmxyz=mxmyz", "mxx=x", "mxo=x", "x=y", "x=x", "o=x", "moo=o", "mxx=o", "mxy=x", "moz=z"};
        String[][] grounds = {{}, {"mxy=myx"}, {"mxo=x"}, {"mxo=x", "mox=x"}, {"mxx=x"}, {"mxx=o", "mxo=x"}, {"x=y"}, {"moo=x"},
            {"mmxyz=mxmyz"}, {"mmxyz=mxmyz", "mxo=x", "mox=x", "mxx=o"}, {"mxy=x", "mxy=y"}, {"o=o"}, {"mxy=y"}, {"mzz=o", "mxy=mxz"}};
        for (String[] g : grounds) {
            for (String w : wishes) {
                asCounted(g, w);
            }
        }
    }

    private static void worlds() {
        Due.says("How many WORLDS of n things (1 or 2) there are in which all TAKEN ones HOLD (what 0), the least of these (1; NONE). BAD: also n 3.");
        ShownLibrary x = new ShownLibrary();
        Due.is("no ground, one thing", x.worlds(1, 0), 1);
        Due.is("no ground, two things", x.worlds(2, 0), 32);
        Due.is("the least of one thing", x.worlds(1, 1), 0);
        Due.is("the least of two", x.worlds(2, 1), 0);
        Due.tell(x, "taken x=y;");
        Due.is("x is y: one thing", x.worlds(1, 0), 1);
        Due.is("x is y: the least of one", x.worlds(1, 1), 0);
        Due.is("x is y: two things", x.worlds(2, 0), 0);
        Due.is("x is y: the least of two", x.worlds(2, 1), Due.NONE);
        for (int n : new int[] {Due.MIN, -1, 0, 3, 4, Due.MAX}) {
            Due.is("worlds(" + n + ", 0)", x.worlds(n, 0), Due.BAD);
            Due.is("worlds(" + n + ", 1)", x.worlds(n, 1), Due.BAD);
            Due.is("denied(0, " + n + ")", x.denied(0, n), Due.BAD);
        }
        for (int what : new int[] {Due.MIN, -1, 2, Due.MAX}) {
            Due.is("worlds(1, " + what + ")", x.worlds(1, what), Due.BAD);
        }
        // the last WORLD alone: 31 is o 1, 1 1 1 1, but so is 30 with o 0
        ShownLibrary y = Due.with("taken mxy=o;");
        Due.is("m is o", y.worlds(2, 0), 2);
        Due.is("the least of them", y.worlds(2, 1), 0);
        Due.is("the last of them", y.holds(0, 2, 31), 1);
        Due.is("one of o 1 that is none", y.holds(0, 2, 1), 0);
    }

    private static void takenOnesAlone() {
        Due.says("a WORLD of n things in which all TAKEN ones HOLD and it does not.");
        ShownLibrary x = Due.with("word a 1 x;wish ax=x;wish ax=ao;wish x=y;");
        Due.is("wishes are no grounds", x.worlds(2, 0), 32);
        Due.is("of a wished one", x.denied(1, 2), 0);
        Due.is("0 is shown", x.take(0, 1, 9), 1);
        Due.is("shown ones are no grounds", x.worlds(2, 0), 32);
        Due.is("a shown one", x.denied(0, 2), Due.NONE);
        Due.is("it breaks", Due.change(x, 0, "o"), 1);
        Due.is("a broken one", x.denied(0, 2), 0);
        Due.is("a broken one, one thing", x.denied(0, 1), Due.NONE);
        Due.is("a wished one that holds now", x.denied(1, 2), Due.NONE);
        Due.tell(x, "taken ax=x;");
        Due.is("a ground by a's meaning", x.worlds(2, 0), 0);
        Due.is("none is left to deny by", x.denied(2, 2), Due.NONE);
        Due.change(x, 0, "mxo");
        Due.is("mxo is x: o 0 with 0 . 1 ., o 1 with . 0 . 1", x.worlds(2, 0), 8);
        Due.is("the least: o 0, 0 0 1 0", x.worlds(2, 1), 8);
        Due.is("and it denies x=y", x.denied(2, 2), 8);
        for (int e : new int[] {Due.MIN, -1, 4, 24, Due.MAX}) {
            Due.is("denied(" + e + ", 2)", x.denied(e, 2), Due.BAD);
            Due.is("holds(" + e + ", 2, 0)", x.holds(e, 2, 0), Due.BAD);
        }
    }

    public static void main(String[] args) {
        worldsAreNumbered();
        wordsByTheirMeaning();
        whateverXYZAre();
        noSuchWorld();
        denied();
        worlds();
        takenOnesAlone();
        Due.finish();
    }
}
