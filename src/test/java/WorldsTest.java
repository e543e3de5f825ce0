/** Promises 22 to 24: holds, worlds, denied. */
public final class WorldsTest {
    /** The number of a world: o, then the table of m. */
    private static int world(int n, int o, int... table) {
        int number = 0;
        for (int i = table.length - 1; i >= 0; i--) {
            number = number * n + table[i];
        }
        return number * n + o;
    }

    private static void holding() {
        ShownLibrary x = Due.with("word a 1 mxo;word b 2 mayax;taken mxy=myx;wish mxo=x;wish ax=x;wish bxy=myx;wish o=moo;wish x=y;wish x=z;wish mxmyz=mmxyz;");
        int and = world(2, 1, 0, 0, 0, 1);
        Due.is("and is 2 sided", x.holds(0, 2, and), 1);
        Due.is("and 1", x.holds(1, 2, and), 1);
        Due.is("a by its meaning", x.holds(2, 2, and), 1);
        Due.is("b by its meaning", x.holds(3, 2, and), 1);
        Due.is("1 and 1", x.holds(4, 2, and), 1);
        Due.is("x is not y", x.holds(5, 2, and), 0);
        Due.is("x is not z", x.holds(6, 2, and), 0);
        Due.is("and in rows", x.holds(7, 2, and), 1);
        int first = world(2, 0, 0, 0, 1, 1);
        Due.is("the first one is not 2 sided", x.holds(0, 2, first), 0);
        Due.is("the first one 1", x.holds(1, 2, first), 1);
        Due.is("b changes its mates", x.holds(3, 2, first), 1);
        int second = world(2, 0, 0, 1, 0, 1);
        Due.is("the second one: mxo is o", x.holds(1, 2, second), 0);
        Due.is("a", x.holds(2, 2, second), 0);
        Due.is("b: the second of ay and ax is o", x.holds(3, 2, second), 0);
        int plus = world(3, 0, 0, 1, 2, 1, 2, 0, 2, 0, 1);
        Due.is("three things 0", x.holds(0, 3, plus), 1);
        Due.is("three things 1", x.holds(1, 3, plus), 1);
        Due.is("three things 7", x.holds(7, 3, plus), 1);
        Due.is("three things 5", x.holds(5, 3, plus), 0);
        int minus = world(3, 0, 0, 2, 1, 1, 0, 2, 2, 1, 0);
        Due.is("minus 0", x.holds(0, 3, minus), 0);
        Due.is("minus 1", x.holds(1, 3, minus), 1);
        Due.is("minus 7", x.holds(7, 3, minus), 0);
        Due.is("one thing: all hold", x.holds(5, 1, 0), 1);
        Due.is("the last of three", x.holds(4, 3, 59048), 1);
        Due.is("behind it", x.holds(4, 3, 59049), Due.BAD);
        Due.is("the last of two", x.holds(4, 2, 31), 1);
        Due.is("behind it", x.holds(4, 2, 32), Due.BAD);
        Due.is("one thing, world 1", x.holds(4, 1, 1), Due.BAD);
        Due.is("world -1", x.holds(4, 2, -1), Due.BAD);
        Due.is("n 0", x.holds(4, 0, 0), Due.BAD);
        Due.is("n 4", x.holds(4, 4, 0), Due.BAD);
        Due.is("n -1", x.holds(4, -1, 0), Due.BAD);
        Due.is("no such saying", x.holds(8, 2, 0), Due.BAD);
        Due.is("a changed meaning", Due.change(x, 0, "mxx"), 0);
        Due.is("mxx is x in and", x.holds(2, 2, and), 1);
        Due.is("mxx is x in or not in plus", x.holds(2, 3, plus), 0);
    }

    private static void countingWorlds() {
        ShownLibrary x = new ShownLibrary();
        Due.is("no grounds, one thing", x.worlds(1, 0), 1);
        Due.is("no grounds, two things", x.worlds(2, 0), 32);
        Due.is("the least", x.worlds(2, 1), 0);
        Due.tell(x, "taken mxy=myx;");
        Due.is("2 sided: 2 times 8", x.worlds(2, 0), 16);
        Due.tell(x, "taken mxo=x;");
        // o = 0: 0 1 1 ?, o = 1: ? 0 0 1
        Due.is("with o: 4", x.worlds(2, 0), 4);
        Due.is("the least is o 0, 0 1 1 0", x.worlds(2, 1), Math.min(world(2, 0, 0, 1, 1, 0), world(2, 1, 0, 0, 0, 1)));
        Due.tell(x, "wish x=y;");
        Due.is("wishes are not looked at", x.worlds(2, 0), 4);
        Due.tell(x, "taken x=y;");
        Due.is("x is y: none of two", x.worlds(2, 0), 0);
        Due.is("none is least", x.worlds(2, 1), Due.NONE);
        Due.is("one thing still", x.worlds(1, 0), 1);
        Due.is("the least of one", x.worlds(1, 1), 0);
        Due.is("n 3", x.worlds(3, 0), Due.BAD);
        Due.is("n 0", x.worlds(0, 0), Due.BAD);
        Due.is("what 2", x.worlds(2, 2), Due.BAD);
        Due.is("what -1", x.worlds(2, -1), Due.BAD);
    }

    private static void denying() {
        ShownLibrary x = Due.with("word a 1 mxx;taken mxy=myx;wish mxmyz=mmxyz;wish ax=x;wish mxy=mxy;wish mxo=mox;wish x=o;");
        // nor: 1 0 0 0 is 2 sided and not in rows; the least with o = 0 is 1 0 0 0
        Due.is("rows", x.denied(1, 2), world(2, 0, 1, 0, 0, 0));
        Due.is("mxx", x.denied(2, 2), world(2, 0, 0, 0, 0, 0));
        Due.is("always so", x.denied(3, 2), Due.NONE);
        Due.is("by its grounds", x.denied(4, 2), Due.NONE);
        Due.is("a ground itself", x.denied(0, 2), Due.NONE);
        Due.is("x is o", x.denied(5, 2), 0);
        Due.is("one thing", x.denied(5, 1), Due.NONE);
        Due.is("n 3", x.denied(5, 3), Due.BAD);
        Due.is("n 0", x.denied(5, 0), Due.BAD);
        Due.is("no such saying", x.denied(6, 2), Due.BAD);
        Due.is("no such saying -1", x.denied(-1, 2), Due.BAD);
        Due.tell(x, "taken ax=x;");
        // 0 0 0 1 (and), o = 0
        Due.is("rows, mxx is x", x.denied(1, 2), Due.NONE);
        Due.is("x is o, mxx is x", x.denied(5, 2), world(2, 0, 0, 0, 0, 1));
    }

    public static void main(String[] args) {
        holding();
        countingWorlds();
        denying();
        Due.finish();
    }
}
