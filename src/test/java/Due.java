import java.io.IOException;
import java.nio.file.Files;
import java.nio.file.Path;
import java.util.ArrayList;
import java.util.List;

/** What the tests by hand share: answers that are due, and texts typed on the tape. */
final class Due {
    static final int BAD = -1, STATE = -2, FULL = -3, NONE = -4, SPENT = -6;
    static final int MIN = Integer.MIN_VALUE, MAX = Integer.MAX_VALUE;
    private static final List<String> QUOTES = new ArrayList<>();
    private static int wrong = 0;
    private static int asked = 0;
    private static String sentence = "";

    private Due() { }

    static void is(String call, long got, long want) {
        asked++;
        if (got != want) {
            wrong++;
            System.out.println(call + " answered " + got + ", due is " + want + sentence);
        }
    }

    /** Names the sentence of the document that the answers from here on stand for. */
    static void says(String quote) {
        QUOTES.add(quote);
        sentence = "; the document says: " + quote;
    }

    /** Tells of sentences that the document does not have any more; the tests of these want reading anew. */
    private static void lookUpQuotes() {
        Path document = Path.of("../shared/DOC.md");
        if (QUOTES.isEmpty() || !Files.isReadable(document)) {
            return;
        }
        try {
            String text = Files.readString(document).replaceAll("\\s+", " ");
            for (String quote : QUOTES) {
                if (!text.contains(quote)) {
                    System.out.println("not in the document: " + quote);
                }
            }
        } catch (IOException e) {
            System.out.println("the document can not be read: " + e);
        }
    }

    /** Puts a text on the tape, which is empty, and no byte behind it. */
    static void type(ShownLibrary lib, String text) {
        for (int i = 0; i < text.length(); i += 8) {
            long v = 0;
            for (int k = 0; k < 8; k++) {
                v = v << 8 | (i + k < text.length() ? text.charAt(i + k) & 255 : 32);
            }
            lib.feed(v);
        }
        lib.end(text.length());
    }

    static int tell(ShownLibrary lib, String text) {
        type(lib, text);
        return lib.text();
    }

    static int change(ShownLibrary lib, int w, String meaning) {
        type(lib, meaning);
        return lib.change(w);
    }

    static ShownLibrary with(String text) {
        ShownLibrary lib = new ShownLibrary();
        int answer = tell(lib, text);
        if (answer < 0) {
            wrong++;
            System.out.println("a text that should be good answered " + answer + ": " + text);
        }
        return lib;
    }

    /** Compares two rows of letters. */
    static void reads(String call, String got, String want) {
        asked++;
        if (!got.equals(want)) {
            wrong++;
            System.out.println(call + " is " + got + ", due is " + want + sentence);
        }
    }

    /** The TERM that THE PROOF in hand has come to; "" when there is none in hand. */
    static String inHand(ShownLibrary lib) {
        StringBuilder b = new StringBuilder();
        for (int i = 0; i < Math.max(0, lib.proof(2)); i++) {
            b.append((char) ('a' + lib.proof(10 + i)));
        }
        return b.toString();
    }

    /** A STEP that goes, and the TERM that comes of it. */
    static void goes(ShownLibrary lib, int kind, int which, int place, String want) {
        String call = "step(" + kind + ", " + which + ", " + place + ") of " + inHand(lib);
        is(call, lib.step(kind, which, place), want.length());
        reads(call, inHand(lib), want);
    }

    /** A STEP that does not go: TERM and STEPS stay. */
    static void stays(ShownLibrary lib, int kind, int which, int place, int want) {
        String term = inHand(lib);
        int steps = lib.proof(1);
        String call = "step(" + kind + ", " + which + ", " + place + ") of " + term;
        is(call, lib.step(kind, which, place), want);
        reads(call, inHand(lib), term);
        is("STEPS behind " + call, lib.proof(1), steps);
    }

    /** A library of a text, with a proof in hand. */
    static ShownLibrary proving(String text, int e) {
        ShownLibrary lib = with(text);
        lib.prove(e);
        return lib;
    }

    /** Lays a row of cells on a new sheet. */
    static void sheet(ShownLibrary lib, int k, int lane, int... cells) {
        lib.sheet(k, lane, cells.length);
        for (int i = 0; i < cells.length; i++) {
            lib.lay(k, i, cells[i]);
        }
    }

    static void finish() {
        lookUpQuotes();
        System.out.println(wrong == 0 ? asked + " answers are as due" : wrong + " of " + asked + " answers are not as due");
        if (wrong != 0) {
            System.exit(1);
        }
    }
}
