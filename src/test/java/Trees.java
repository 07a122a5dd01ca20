/** Trees that the tests begin with. */
final class Trees {
    static final long MOST = (1L << 32) - 1;
    /** The limit's bits. */
    static final long EASY = 0x207FFFFFL;
    /** The bits after a first period that was as short as can be. */
    static final long HARD = 0x201FFFFFL;
    static final int[] NO_BLOCKS = {-1, -2, 300, Integer.MIN_VALUE, Integer.MAX_VALUE};

    /** The bits of the first periods, if each is as short as can be. */
    private static final long[] HARDER = {
        0x207FFFFFL, 0x201FFFFFL, 0x2007FFFFL, 0x2001FFFFL, 0x1F7FFFC0L, 0x1F1FFFF0L, 0x1F07FFFCL, 0x1F01FFFFL,
        0x1E7FFFC0L, 0x1E1FFFF0L, 0x1E07FFFCL, 0x1E01FFFFL, 0x1D7FFFC0L, 0x1D1FFFF0L, 0x1D07FFFCL, 0x1D01FFFFL,
        0x1C7FFFC0L, 0x1C1FFFF0L, 0x1C07FFFCL, 0x1C01FFFFL, 0x1B7FFFC0L, 0x1B1FFFF0L, 0x1B07FFFCL, 0x1B01FFFFL,
        0x1A7FFFC0L, 0x1A1FFFF0L, 0x1A07FFFCL, 0x1A01FFFFL, 0x197FFFC0L, 0x191FFFF0L, 0x1907FFFCL, 0x1901FFFFL,
        0x187FFFC0L, 0x181FFFF0L, 0x1807FFFCL, 0x1801FFFFL, 0x177FFFC0L, 0x171FFFF0L};

    private Trees() {
    }

    private static void added(TreeDesk x, int parent, long time, long bits, int number) {
        Check.due("making a tree: add(" + parent + ", " + time + ", " + bits + ")", x.add(parent, time, bits), number);
    }

    /** Blocks 1 .. n, each the child of the one before, all with the limit's bits: n is at most 7. */
    static TreeDesk chain(int room, int rootTime, long... times) {
        TreeDesk x = new TreeDesk(room, rootTime);
        for (int i = 0; i < times.length; i++) {
            added(x, i, times[i], EASY, i + 1);
        }
        return x;
    }

    /** Blocks 1 .. 7 above a root of time 10000, the seventh with a time of its own. */
    static TreeDesk period(long lastTime) {
        return chain(300, 10000, 10001, 10002, 10003, 10004, 10005, 10006, lastTime);
    }

    /** Blocks 8 .. 15 above a first period; 9 .. 14 one second apart. */
    static void secondPeriod(TreeDesk x, long bits, long firstTime, long lastTime) {
        added(x, 7, firstTime, bits, 8);
        for (int i = 9; i < 15; i++) {
            added(x, i - 1, 20000 + i - 8, bits, i);
        }
        added(x, 14, lastTime, bits, 15);
    }

    /** A chain of whole periods, each of such a span from its first block to its last; the bits are those it asks for. */
    static TreeDesk periods(long... spans) {
        TreeDesk x = new TreeDesk(300, 0);
        for (int i = 1; i < 8 * spans.length; i++) {
            long begun = 100000L * (i / 8);
            added(x, i - 1, i % 8 == 7 ? begun + spans[i / 8] : begun + i % 8, x.must(i - 1), i);
        }
        return x;
    }

    /** Blocks 1 .. n so far apart that their bits stay the limit's. */
    static TreeDesk slowChain(int n) {
        TreeDesk x = new TreeDesk(300, 1000);
        for (int i = 1; i <= n; i++) {
            added(x, i - 1, 1000 + 700L * i, EASY, i);
        }
        return x;
    }

    /** Blocks 1 .. 299, each a second after the one before: every period's target is a quarter of the one before. */
    static TreeDesk deep() {
        TreeDesk x = new TreeDesk(300, 0);
        for (int i = 1; i < 300; i++) {
            added(x, i - 1, i, HARDER[i / 8], i);
        }
        return x;
    }

    /** A chain of nine whose last one, 8, has hard bits. */
    static TreeDesk hardTop() {
        TreeDesk x = period(10007);
        added(x, 7, 10008, HARD, 8);
        return x;
    }

    /** 0 - 1 - 2 - 3, 1 - 4 - 5 and 0 - 6. */
    static TreeDesk branches() {
        TreeDesk x = chain(300, 1000, 1001, 1002, 1003);
        added(x, 1, 1004, EASY, 4);
        added(x, 4, 1005, EASY, 5);
        added(x, 0, 1006, EASY, 6);
        return x;
    }

    /** 0 - 1 - 2 and 0 - 3 - 4, of which 3 was spoiled. */
    static TreeDesk halfBad(int room) {
        TreeDesk x = chain(room, 1000, 1001, 1002);
        added(x, 0, 1003, EASY, 3);
        added(x, 3, 1004, EASY, 4);
        Check.due("making a tree: spoil(3)", x.spoil(3), 2);
        return x;
    }

    /** As many children of the root as there is room for: at most so many blocks. */
    static TreeDesk star(int asked, int blocks) {
        TreeDesk x = new TreeDesk(asked, 0);
        for (int i = 1; i < blocks; i++) {
            added(x, 0, i, EASY, i);
        }
        return x;
    }
}
