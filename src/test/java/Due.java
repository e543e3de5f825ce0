/** What the tests by hand share: answers that are due, and texts typed on the tape. */
final class Due {
    static final int BAD = -1, STATE = -2, FULL = -3, NONE = -4, SPENT = -6;
    private static int wrong = 0;
    private static int asked = 0;

    private Due() { }

    static void is(String call, long got, long want) {
        asked++;
        if (got != want) {
            wrong++;
            System.out.println(call + " answered " + got + ", due is " + want);
        }
    }

    /** Puts a text on the tape, which is empty, and no byte behind it. */
    static void type(ShownLibrary lib, String text) {
        for (int i = 0; i < text.length(); i += 8) {
            long v = 0;
            for (int k = 0; k < 8; k++) {
                v = v << 8 | (i + k < text.length() ? text.charAt(i + k) & 255 : 32);
            }
            lib.feed(v);
        }
        lib.end(text.length());
    }

    static int tell(ShownLibrary lib, String text) {
        type(lib, text);
        return lib.text();
    }

    static int change(ShownLibrary lib, int w, String meaning) {
        type(lib, meaning);
        return lib.change(w);
    }

    static ShownLibrary with(String text) {
        ShownLibrary lib = new ShownLibrary();
        int answer = tell(lib, text);
        if (answer < 0) {
            wrong++;
            System.out.println("a text that should be good answered " + answer + ": " + text);
        }
        return lib;
    }

    /** Lays a row of cells on a new sheet. */
    static void sheet(ShownLibrary lib, int k, int lane, int... cells) {
        lib.sheet(k, lane, cells.length);
        for (int i = 0; i < cells.length; i++) {
            lib.lay(k, i, cells[i]);
        }
    }

    static void finish() {
        System.out.println(wrong == 0 ? asked + " answers are as due" : wrong + " of " + asked + " answers are not as due");
        if (wrong != 0) {
            System.exit(1);
        }
    }
}
