/** Promises 6 to 11: hand, day, of, sign, word, as. */
public final class SayingsTest {
    private static void hands() {
        ShownLibrary x = new ShownLibrary();
        Due.is("hand(-1)", x.hand(-1), Due.BAD);
        Due.is("hand(10)", x.hand(10), Due.BAD);
        Due.is("hand(9)", x.hand(9), 0);
        Due.is("hand(0)", x.hand(0), 9);
        Due.is("hand(4)", x.hand(4), 0);
        Due.is("count(7)", x.count(7), 4);
        Due.tell(x, "wish x=y;");
        x.hand(5);
        Due.tell(x, "taken x=x;");
        Due.is("of(0, 1)", x.of(0, 1), 4);
        Due.is("of(1, 1)", x.of(1, 1), 5);
    }

    private static void days() {
        ShownLibrary x = new ShownLibrary();
        Due.is("day(-1)", x.day(-1), Due.BAD);
        Due.is("day(1000)", x.day(1000), Due.BAD);
        Due.is("day(0)", x.day(0), 0);
        Due.is("day(7)", x.day(7), 0);
        Due.is("day(6)", x.day(6), Due.BAD);
        Due.is("day(7) again", x.day(7), 7);
        Due.tell(x, "wish x=y;");
        Due.is("of(0, 2)", x.of(0, 2), 7);
        Due.is("day(999)", x.day(999), 7);
        Due.is("count(8)", x.count(8), 999);
        Due.is("of(0, 2) still", x.of(0, 2), 7);
    }

    private static void ofAndSign() {
        ShownLibrary x = Due.with("taken mxo=x;wish mmxoo=x;wish o=mxy;");
        Due.is("of(0, 0)", x.of(0, 0), 0);
        Due.is("of(1, 0)", x.of(1, 0), 1);
        Due.is("of(1, 3)", x.of(1, 3), 5);
        Due.is("of(1, 4)", x.of(1, 4), 1);
        Due.is("of(0, 5)", x.of(0, 5), Due.NONE);
        Due.is("of(1, 5)", x.of(1, 5), Due.NONE);
        Due.is("of(1, 6)", x.of(1, 6), Due.NONE);
        Due.is("of(1, 7)", x.of(1, 7), 0);
        Due.is("of(0, 8)", x.of(0, 8), 0);
        Due.is("take", x.take(1, 2, 20), 2);
        Due.is("of(1, 0) shown", x.of(1, 0), 2);
        Due.is("of(1, 5) shown", x.of(1, 5), 2);
        Due.is("of(1, 6) shown", x.of(1, 6), Due.NONE);
        Due.is("of(1, 7) shown", x.of(1, 7), 1);
        Due.is("of(0, 8) shown", x.of(0, 8), 1);
        Due.is("of(0, 9)", x.of(0, 9), Due.BAD);
        Due.is("of(0, -1)", x.of(0, -1), Due.BAD);
        Due.is("of(3, 0)", x.of(3, 0), Due.BAD);
        Due.is("of(-1, 0)", x.of(-1, 0), Due.BAD);
        Due.is("sign(1, 0, 0)", x.sign(1, 0, 0), 12);
        Due.is("sign(1, 0, 4)", x.sign(1, 0, 4), 14);
        Due.is("sign(1, 0, 5)", x.sign(1, 0, 5), Due.NONE);
        Due.is("sign(2, 1, 2)", x.sign(2, 1, 2), 24);
        Due.is("sign(2, 0, 1)", x.sign(2, 0, 1), Due.NONE);
        Due.is("sign(2, 0, max)", x.sign(2, 0, Integer.MAX_VALUE), Due.NONE);
        Due.is("sign(2, 0, -1)", x.sign(2, 0, -1), Due.BAD);
        Due.is("sign(2, 2, 0)", x.sign(2, 2, 0), Due.BAD);
        Due.is("sign(2, -1, 0)", x.sign(2, -1, 0), Due.BAD);
        Due.is("sign(3, 0, 0)", x.sign(3, 0, 0), Due.BAD);
    }

    private static void words() {
        ShownLibrary x = Due.with("word d 2 mxmyo;word b 1 dxx;wish dxy=mxmyo;wish mxmxo=bx;");
        Due.is("word(0, 0)", x.word(0, 0), 3);
        Due.is("word(1, 0)", x.word(1, 0), 1);
        Due.is("word(0, 1)", x.word(0, 1), 2);
        Due.is("word(1, 1)", x.word(1, 1), 1);
        Due.is("word(0, 2)", x.word(0, 2), 5);
        Due.is("word(0, 3)", x.word(0, 3), 0);
        Due.is("word(0, 13)", x.word(0, 13), 24);
        Due.is("word(0, 14)", x.word(0, 14), 14);
        Due.is("word(0, 15)", x.word(0, 15), Due.BAD);
        Due.is("word(0, 4)", x.word(0, 4), Due.BAD);
        Due.is("word(0, 9)", x.word(0, 9), Due.BAD);
        Due.is("word(0, -1)", x.word(0, -1), Due.BAD);
        Due.is("word(2, 0)", x.word(2, 0), Due.BAD);
        Due.is("word(-1, 0)", x.word(-1, 0), Due.BAD);
        Due.is("take(0)", x.take(0, 1, 20), 1);
        Due.is("put in counts", x.word(0, 3), 1);
        x.prove(1);
        x.step(3, 0, 0);
        x.step(3, 1, 0);
        Due.is("show()", x.show(), 2);
        Due.is("put out counts", x.word(0, 3), 2);
        Due.is("word(1, 3)", x.word(1, 3), 1);
        Due.is("change", Due.change(x, 0, "x"), 2);
        Due.is("broken ones do not count", x.word(0, 3), 0);
    }

    private static void asOnDays() {
        ShownLibrary x = new ShownLibrary();
        x.day(3);
        Due.tell(x, "word a 1 mxx;taken x=x;wish ax=mxx;");
        Due.is("as(1, 2)", x.as(1, 2), Due.NONE);
        Due.is("as(1, 3)", x.as(1, 3), 1);
        Due.is("as(1, 999)", x.as(1, 999), 1);
        x.day(5);
        Due.is("take", x.take(1, 1, 20), 1);
        x.day(8);
        Due.is("change", Due.change(x, 0, "o"), 1);
        Due.is("back again", Due.change(x, 0, "mxx"), 0);
        Due.is("as(1, 8) broken", x.as(1, 8), 3);
        Due.is("take again", x.take(1, 1, 20), 1);
        x.day(9);
        Due.is("change on 9", Due.change(x, 0, "o"), 1);
        Due.is("as(1, 4)", x.as(1, 4), 1);
        Due.is("as(1, 5)", x.as(1, 5), 2);
        Due.is("as(1, 7)", x.as(1, 7), 2);
        Due.is("as(1, 8) behind all that was done", x.as(1, 8), 2);
        Due.is("as(1, 9)", x.as(1, 9), 3);
        Due.is("as(0, 0)", x.as(0, 0), Due.NONE);
        Due.is("as(0, 9)", x.as(0, 9), 0);
        Due.is("as(2, 9)", x.as(2, 9), Due.BAD);
        Due.is("as(0, -1)", x.as(0, -1), Due.BAD);
        Due.is("as(0, 1000)", x.as(0, 1000), Due.BAD);
    }

    /** As many turns as 512 calls can bring: 24 are shown and broken on each of eight days. */
    private static void manyTurns() {
        ShownLibrary x = Due.with("word a 1 x;");
        for (int i = 0; i < 4; i++) {
            Due.tell(x, "wish ax=x;wish ax=x;wish ax=x;wish ax=x;wish ax=x;wish ax=x;");
        }
        for (int day = 0; day < 8; day++) {
            x.day(2 * day);
            for (int e = 0; e < 24; e++) {
                Due.is("take " + e, x.take(e, 1, 3), 1);
            }
            x.day(2 * day + 1);
            x.feed(0x6f20202020202020L);
            Due.is("all break", x.change(0), 24);
            x.feed(0x7820202020202020L);
            Due.is("none comes back", x.change(0), 0);
        }
        for (int e = 0; e < 24; e++) {
            for (int i = 0; i < 6; i++) {
                int day = i == 0 ? 15 : (5 * e + i) % 16;
                Due.is("as(" + e + ", " + day + ")", x.as(e, day), day % 2 == 0 ? 2 : 3);
            }
        }
    }

    public static void main(String[] args) {
        hands();
        days();
        ofAndSign();
        words();
        asOnDays();
        manyTurns();
        Due.finish();
    }
}
