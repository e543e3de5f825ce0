import java.util.ArrayList;
import java.util.List;
import java.util.function.ToIntFunction;

/** Looks at all that a library answers, to find whether a call that was refused changed anything. */
final class Probe {
    private Probe() { }

    /**
     * The answers to some 300 questions. The last ones change what they ask about (the tape is read, sheets too), so the
     * object has no use behind it.
     */
    private static List<Integer> answers(ShownLibrary x) {
        List<Integer> all = new ArrayList<>();
        all.add(x.fault());
        int sayings = x.count(0);
        for (int what = 0; what <= 10; what++) {
            all.add(x.count(what));
        }
        for (int what = 0; what < 20; what++) {
            all.add(x.proof(what));
        }
        for (int w = 0; w < x.count(5); w++) {
            for (int what : new int[] {0, 1, 2, 3, 10, 11, 12, 13}) {
                all.add(x.word(w, what));
            }
        }
        for (int e = 0; e < Math.min(sayings, 7); e++) {
            askOne(x, e, all);
        }
        for (int k = 0; k < 4; k++) {
            for (int lane = 0; lane < 3; lane++) {
                all.add(x.read(3, k, lane, 0, 1));
            }
            for (int i : new int[] {0, 2, 3, 5, 6, 89}) {
                all.add(x.lay(k, i, 0));
            }
        }
        all.add(x.undo());
        all.add(x.text());
        all.add(x.fault());
        all.add(x.count(0));
        return all;
    }

    private static void askOne(ShownLibrary x, int e, List<Integer> all) {
        for (int what = 0; what <= 8; what++) {
            all.add(x.of(e, what));
        }
        for (int i = 0; i < 4; i++) {
            all.add(x.sign(e, 0, i));
            all.add(x.sign(e, 1, i));
        }
        for (int day : new int[] {0, 3, 4, 5, 999}) {
            all.add(x.as(e, day));
        }
        for (int i = 0; i < 2; i++) {
            for (int what = 0; what < 3; what++) {
                all.add(x.stepOf(e, i, what));
            }
        }
        all.add(x.leans(e, 0));
        all.add(x.leans(e, 2));
    }

    /** Two libraries of one making, one of which refuses a call: they answer all questions alike. */
    static void unchanged(String call, ShownLibrary refuses, ToIntFunction<ShownLibrary> called, int due, ShownLibrary other) {
        Due.is(call, called.applyAsInt(refuses), due);
        List<Integer> want = answers(other);
        List<Integer> got = answers(refuses);
        Due.is(call + " changes nothing: questions", got.size(), want.size());
        for (int i = 0; i < Math.min(got.size(), want.size()); i++) {
            Due.is(call + " changes nothing: question " + i, got.get(i), want.get(i));
        }
    }
}
