/** Each promise by hand: ordinary inputs, the edges that the document names, and wrong inputs. */
public final class PromisesTest {
    private static final long EASY = Trees.EASY;
    private static final long HARD = Trees.HARD;
    private static final long MOST = Trees.MOST;
    private static final int[] NO_BLOCKS = Trees.NO_BLOCKS;

    private static void due(String call, long got, long want) {
        Check.due(call, got, want);
    }

    private static void room(int asked, int due) {
        TreeDesk x = new TreeDesk(asked, 0);
        for (int i = 1; i < due; i++) {
            due("room " + asked + ": add " + i, x.add(0, i, EASY), i);
        }
        due("room " + asked + ": one too many", x.add(0, 1, EASY), -5);
        due("room " + asked + ": size()", x.size(), due);
    }

    private static void newObject() {
        room(2, 2);
        room(3, 3);
        room(299, 299);
        room(300, 300);
        for (int asked : new int[] {1, 0, -1, -300, 301, 1000, Integer.MIN_VALUE, Integer.MAX_VALUE}) {
            room(asked, 100);
        }
        int[] times = {0, 1, Integer.MAX_VALUE, Integer.MIN_VALUE, -1};
        long[] told = {0, 1, 2147483647L, 2147483648L, MOST};
        for (int i = 0; i < times.length; i++) {
            TreeDesk x = new TreeDesk(5, times[i]);
            due("root's time " + times[i], x.look(0, 2), told[i]);
            due("root's median " + times[i], x.median(0), told[i]);
            due("root's parent", x.look(0, 0), -1);
            due("root's height", x.look(0, 1), 0);
            due("root's bits", x.look(0, 3), EASY);
            due("root is bad", x.look(0, 4), 0);
            due("root's children", x.look(0, 5), 0);
            due("root's work", x.work(0, 3), 2);
            due("first size()", x.size(), 1);
            due("first tip()", x.tip(), 0);
        }
    }

    private static void add() {
        TreeDesk x = Trees.chain(4, 1000, 1001, 1002);
        for (int none : NO_BLOCKS) {
            due("add: no parent " + none, x.add(none, -1, -1), -1);
        }
        due("add: the next number is no parent", x.add(3, 2000, EASY), -1);
        due("add: wrong bits, wrong time", x.add(2, 0, EASY - 1), -3);
        due("add: bits of 33 bits", x.add(2, 2000, EASY + (1L << 32)), -3);
        due("add: bits below 0", x.add(2, 2000, -1), -3);
        due("add: time as the median", x.add(2, 1001, EASY), -4);
        due("add: time below 0", x.add(2, -1, EASY), -4);
        due("add: least time", x.add(2, Long.MIN_VALUE, EASY), -4);
        due("add: time of 33 bits", x.add(2, MOST + 1, EASY), -4);
        due("add: greatest time", x.add(2, Long.MAX_VALUE, EASY), -4);
        due("add: refused ones left size()", x.size(), 3);
        due("add: refused ones left tip()", x.tip(), 2);
        due("add: refused ones left no child", x.look(2, 5), 0);
        due("spoil(1)", x.spoil(1), 2);
        due("add: parent bad, all else wrong", x.add(2, -1, -1), -2);
        due("add: parent bad", x.add(1, 3000, EASY), -2);
        due("add: the most time", x.add(0, MOST, EASY), 3);
        due("add: its time", x.look(3, 2), MOST);
        due("add: no room, wrong parent", x.add(4, 3000, EASY), -1);
        due("add: no room, bad parent", x.add(1, 3000, EASY), -2);
        due("add: no room, wrong bits", x.add(0, 3000, EASY + 1), -3);
        due("add: no room, wrong time", x.add(0, 1000, EASY), -4);
        due("add: no room", x.add(0, 1001, EASY), -5);
        due("add: no room left size()", x.size(), 4);
        due("add: no room left no child", x.look(0, 5), 2);
        due("add: nothing is above the most time", new TreeDesk(5, -1).add(0, MOST, EASY), -4);
        TreeDesk back = Trees.chain(9, 1000, 5000, 6000);
        due("add: before the parent's time, as the median", back.add(2, 5000, EASY), -4);
        due("add: before the parent's time, above the median", back.add(2, 5001, EASY), 3);
        due("add: two with all alike", back.add(2, 5001, EASY), 4);
    }

    private static void spoil() {
        TreeDesk x = Trees.chain(20, 1000, 1001, 1002, 1003, 1004);
        due("add(2)", x.add(2, 2000, EASY), 5);
        due("add(5)", x.add(5, 2001, EASY), 6);
        due("add(1)", x.add(1, 2002, EASY), 7);
        for (int none : NO_BLOCKS) {
            due("spoil: none " + none, x.spoil(none), 0);
        }
        due("spoil(8)", x.spoil(8), 0);
        due("spoil(0)", x.spoil(0), 0);
        due("spoil(5)", x.spoil(5), 2);
        due("spoil(5) again", x.spoil(5), 0);
        due("spoil(6), bad by its parent", x.spoil(6), 0);
        due("spoil(2) counts the new ones alone", x.spoil(2), 3);
        long[] bad = {0, 0, 1, 1, 1, 1, 1, 0};
        for (int i = 0; i < bad.length; i++) {
            due("spoiled: look(" + i + ", 4)", x.look(i, 4), bad[i]);
        }
        due("spoiled: size()", x.size(), 8);
        due("spoiled: children stay", x.look(2, 5), 2);
        due("spoiled: median stays", x.median(4), 1002);
        due("spoiled: must stays", x.must(6), EASY);
        due("spoiled: tip()", x.tip(), 7);
        due("spoil(7)", x.spoil(7), 1);
        due("spoil(1)", x.spoil(1), 1);
        due("all but the root bad: tip()", x.tip(), 0);
        due("a new start", x.add(0, 1001, EASY), 8);
        due("a new start: tip()", x.tip(), 8);
        TreeDesk full = Trees.chain(3, 1000, 1001, 1002);
        due("full: spoil(2)", full.spoil(2), 1);
        due("full: tip()", full.tip(), 1);
        due("full: spoil(1)", full.spoil(1), 1);
        due("full: tip()", full.tip(), 0);
    }

    private static void must() {
        TreeDesk young = Trees.chain(10, 1000, 1001, 1002, 1003, 1004, 1005, 1006);
        for (int i = 0; i <= 6; i++) {
            due("must(" + i + ")", young.must(i), EASY);
        }
        due("must: none", young.must(7), -1);
        for (int none : NO_BLOCKS) {
            due("must: none " + none, young.must(none), -1);
        }
        long[][] firsts = {
            {10004, 0x201FFFFFL}, {11199, 0x201FFFFFL}, {11200, 0x201FFFFFL}, {11201, 0x202006D3L},
            {11210, 0x20204444L}, {12400, 0x203FFFFFL}, {13600, 0x205FFFFFL}, {14799, 0x207FF92BL},
            {14800, EASY}, {14801, EASY}, {29200, EASY}, {MOST, EASY}};
        for (long[] pair : firsts) {
            due("must: a first period up to " + pair[0], Trees.period(pair[0]).must(7), pair[1]);
        }
        long[][] seconds = {
            {1199, 0x2007FFFFL}, {1200, 0x2007FFFFL}, {1201, 0x200801B4L}, {2400, 0x200FFFFFL},
            {4799, 0x201FFE4AL}, {4800, HARD}, {4801, 0x202001B3L}, {9600, 0x203FFFFEL},
            {19199, 0x207FFE47L}, {19200, 0x207FFFFCL}, {19201, 0x207FFFFCL}, {MOST - 20000, 0x207FFFFCL}};
        for (long[] pair : seconds) {
            TreeDesk x = Trees.period(10007);
            Trees.secondPeriod(x, HARD, 20000, 20000 + pair[0]);
            due("must(14) in a second period", x.must(14), HARD);
            due("must: a second period of " + pair[0], x.must(15), pair[1]);
            due("must: the first period's stays", x.must(7), HARD);
        }
        TreeDesk back = Trees.period(10007);
        Trees.secondPeriod(back, HARD, 50000, 20007);
        due("must: a period that goes back in time", back.must(15), 0x2007FFFFL);
    }

    private static void median() {
        TreeDesk y = Trees.slowChain(14);
        for (int i = 0; i <= 14; i++) {
            // Rising times: of n = i + 1, at most 11, number n / 2 from the earliest one on.
            int n = Math.min(11, i + 1);
            due("median: rising, of block " + i, y.median(i), 1000 + 700L * (i - (n - 1) + n / 2));
        }
        due("median: a late one", y.add(14, 90000, EASY), 15);
        due("median: of eleven, one late", y.median(15), y.look(10, 2));
        for (int i = 16; i <= 25; i++) {
            long bits = y.must(i - 1);
            due("median: behind the late one", y.add(i - 1, 20000 + i, bits), i);
        }
        due("median: the late one is the last of eleven", y.median(25), 20021);
        due("median: one more", y.add(25, 20026, y.must(25)), 26);
        due("median: the late one is out", y.median(26), 20021);
        due("median: the late one among earlier ones", y.median(22), 20018);
        TreeDesk z = Trees.chain(300, 1000, 9000, 9001, 9500, 9400, 9300);
        due("median: mixed, of four", z.median(3), 9001);
        due("median: mixed, of five", z.median(4), 9001);
        due("median: mixed, of six", z.median(5), 9300);
        due("median: no sign", new TreeDesk(5, -5).median(0), MOST - 4);
        for (int none : NO_BLOCKS) {
            due("median: none " + none, z.median(none), -1);
        }
        due("median: none", z.median(6), -1);
    }

    private static void look() {
        TreeDesk x = Trees.chain(300, 1000, 1001, 1002);
        due("add(1)", x.add(1, 1003, EASY), 3);
        long[][] blocks = {{-1, 0, 1000, EASY, 0, 1}, {0, 1, 1001, EASY, 0, 2}, {1, 2, 1002, EASY, 0, 0}, {1, 2, 1003, EASY, 0, 0}};
        for (int i = 0; i < blocks.length; i++) {
            for (int what = 0; what < 6; what++) {
                due("look(" + i + ", " + what + ")", x.look(i, what), blocks[i][what]);
            }
        }
        for (int what : new int[] {-1, 6, 7, Integer.MIN_VALUE, Integer.MAX_VALUE}) {
            due("look: no such what " + what, x.look(1, what), -1);
        }
        for (int what = -1; what < 7; what++) {
            for (int none : NO_BLOCKS) {
                due("look: none " + none, x.look(none, what), -1);
            }
            due("look: none", x.look(4, what), -1);
        }
        x.spoil(3);
        due("look: bad", x.look(3, 4), 1);
        due("look: a bad child is a child", x.look(1, 5), 2);
        TreeDesk hard = Trees.hardTop();
        due("look: hard bits", hard.look(8, 3), HARD);
    }

    private static void work() {
        TreeDesk x = Trees.hardTop();
        for (int i = 0; i < 8; i++) {
            due("work(" + i + ", 3)", x.work(i, 3), 2 * i + 2);
        }
        due("work(8, 3)", x.work(8, 3), 16 + 8);
        for (int k = 0; k < 3; k++) {
            due("work(8, " + k + ")", x.work(8, k), 0);
        }
        for (int k : new int[] {-1, 4, 5, Integer.MIN_VALUE, Integer.MAX_VALUE}) {
            due("work: no such long " + k, x.work(8, k), 0);
        }
        for (int none : NO_BLOCKS) {
            due("work: none " + none, x.work(none, 3), 0);
        }
        due("work: none", x.work(9, 3), 0);
        TreeDesk full = Trees.chain(2, 1000, 1001);
        due("work: no long 4 of the last block", full.work(1, 4), 0);
        due("work: no long -1 of the root", full.work(0, -1), 0);
        // A target of 2 ^ 253: its 2 ^ 256 / (target + 1) is just below 8.
        TreeDesk exact = Trees.period(11348);
        Trees.secondPeriod(exact, 0x2023F258L, 20000, 24273);
        due("must: a power of 2", exact.must(15), 0x20200000L);
        due("work: before it", exact.work(15, 3), 8 * 2 + 8 * 7);
        due("add: a power of 2", exact.add(15, 24274, 0x20200000L), 16);
        due("work: of a power of 2", exact.work(16, 3), 8 * 2 + 8 * 7 + 7);
        // A quarter of the target each period: the sums go over 64 bits.
        TreeDesk deep = Trees.deep();
        long[][] sums = {
            {243, 0, Long.parseUnsignedLong("15372404010226380784")}, {244, 0, Long.parseUnsignedLong("17678264611760337904")},
            {245, 1, 1537381139584743408L}, {256, 7, 6149946774025289712L}, {299, 13653, 8070465192514814784L}};
        for (long[] sum : sums) {
            int block = (int) sum[0];
            due("work(" + block + ", 0)", deep.work(block, 0), 0);
            due("work(" + block + ", 1)", deep.work(block, 1), 0);
            due("work(" + block + ", 2)", deep.work(block, 2), sum[1]);
            due("work(" + block + ", 3)", deep.work(block, 3), sum[2]);
        }
        due("compare: above 63 bits", deep.compare(244, 240), 1);
        due("compare: above 64 bits", deep.compare(244, 245), -1);
        due("tip: above 64 bits", deep.tip(), 299);
    }

    private static void compareAndTip() {
        TreeDesk x = Trees.hardTop();
        due("tip: the hard one", x.tip(), 8);
        int at = 0;
        for (int i = 1; i <= 11; i++) {
            int next = x.add(at, 10000 + 700 * i, EASY);
            due("a slow branch of one more", next, 8 + i);
            at = next;
            due("tip: not until it has more work", x.tip(), 8);
        }
        due("compare: height 11 of 24, height 8 of 24", x.compare(19, 8), 0);
        due("compare: the same the other way", x.compare(8, 19), 0);
        due("compare: a higher one with less", x.compare(18, 8), -1);
        due("compare: a lower one with more", x.compare(8, 18), 1);
        due("compare: with itself", x.compare(8, 8), 0);
        due("compare: the root", x.compare(0, 1), -1);
        due("one more", x.add(19, 30000, EASY), 20);
        due("tip: more work", x.tip(), 20);
        due("spoil(20)", x.spoil(20), 1);
        due("tip: of like ones the first", x.tip(), 8);
        due("compare: bad ones too", x.compare(20, 8), 1);
        due("spoil(8)", x.spoil(8), 1);
        due("tip: the other one", x.tip(), 19);
        due("spoil(5) of the lesser branch", x.spoil(5), 3);
        due("tip: stays", x.tip(), 19);
        due("spoil(9)", x.spoil(9), 11);
        due("tip: what is left", x.tip(), 4);
        for (int none : NO_BLOCKS) {
            due("compare: none " + none, x.compare(none, 0), -2);
            due("compare: none " + none, x.compare(0, none), -2);
            due("compare: both none " + none, x.compare(none, none), -2);
        }
        due("compare: none", x.compare(21, 0), -2);
        due("compare: none", x.compare(0, 21), -2);
    }

    private static void size() {
        TreeDesk x = new TreeDesk(3, 0);
        due("size: the root", x.size(), 1);
        x.add(0, 0, EASY);
        due("size: after a refusal", x.size(), 1);
        x.add(0, 1, EASY);
        due("size: two", x.size(), 2);
        x.spoil(1);
        due("size: bad ones too", x.size(), 2);
        x.add(0, 1, EASY);
        x.add(0, 1, EASY);
        due("size: full", x.size(), 3);
    }

    private static void below() {
        TreeDesk x = Trees.branches();
        int[][] due = {{0}, {0, 1}, {0, 1, 2}, {0, 1, 2, 3}, {0, 1, 4}, {0, 1, 4, 5}, {0, 6}};
        for (int block = 0; block < due.length; block++) {
            for (int height = 0; height < due[block].length; height++) {
                due("below(" + block + ", " + height + ")", x.below(block, height), due[block][height]);
            }
            due("below: above the block " + block, x.below(block, due[block].length), -1);
            due("below: height below 0", x.below(block, -1), -1);
        }
        due("below: least height", x.below(5, Integer.MIN_VALUE), -1);
        due("below: greatest height", x.below(5, Integer.MAX_VALUE), -1);
        for (int none : NO_BLOCKS) {
            due("below: none " + none, x.below(none, 0), -1);
        }
        due("below: none", x.below(7, 0), -1);
    }

    private static void fork() {
        TreeDesk x = Trees.branches();
        int[][] due = {
            {0, 0, 0, 0, 0, 0, 0}, {0, 1, 1, 1, 1, 1, 0}, {0, 1, 2, 2, 1, 1, 0}, {0, 1, 2, 3, 1, 1, 0},
            {0, 1, 1, 1, 4, 4, 0}, {0, 1, 1, 1, 4, 5, 0}, {0, 0, 0, 0, 0, 0, 6}};
        x.spoil(4);
        for (int a = 0; a < due.length; a++) {
            for (int b = 0; b < due.length; b++) {
                due("fork(" + a + ", " + b + ")", x.fork(a, b), due[a][b]);
            }
        }
        for (int none : NO_BLOCKS) {
            due("fork: none " + none, x.fork(none, 0), -1);
            due("fork: none " + none, x.fork(0, none), -1);
            due("fork: both none " + none, x.fork(none, none), -1);
        }
        due("fork: none", x.fork(7, 1), -1);
        due("fork: none", x.fork(1, 7), -1);
    }

    private static void row() {
        TreeDesk x = Trees.slowChain(41);
        int[][] due = {
            {0}, {1, 0}, {2, 1, 0}, {9, 8, 7, 6, 5, 4, 3, 2, 1, 0}, {10, 9, 8, 7, 6, 5, 4, 3, 2, 1, 0},
            {11, 10, 9, 8, 7, 6, 5, 4, 3, 2, 0}, {12, 11, 10, 9, 8, 7, 6, 5, 4, 3, 1, 0},
            {39, 38, 37, 36, 35, 34, 33, 32, 31, 30, 28, 24, 16, 0},
            {40, 39, 38, 37, 36, 35, 34, 33, 32, 31, 29, 25, 17, 1, 0}};
        for (int[] row : due) {
            for (int k = 0; k < row.length; k++) {
                due("row(" + row[0] + ", " + k + ")", x.row(row[0], k), row[k]);
            }
            for (int k : new int[] {row.length, row.length + 1, 100, -1, Integer.MIN_VALUE, Integer.MAX_VALUE}) {
                due("row: not in it (" + row[0] + ", " + k + ")", x.row(row[0], k), -1);
            }
        }
        due("row: a branch of its own", x.add(20, 100000, EASY), 42);
        int[] side = {42, 20, 19, 18, 17, 16, 15, 14, 13, 12, 10, 6, 0, -1};
        for (int k = 0; k < side.length; k++) {
            due("row(42, " + k + ")", x.row(42, k), side[k]);
        }
        for (int none : NO_BLOCKS) {
            due("row: none " + none, x.row(none, 0), -1);
        }
        due("row: none", x.row(43, 0), -1);
    }

    private static void fault() {
        TreeDesk x = new TreeDesk(5, 0);
        long[][] due = {
            {EASY, 0}, {0x1D00FFFFL, 0}, {0x03000001L, 0}, {0x01010000L, 0}, {0x02000100L, 0}, {0x21007FFFL, 0}, {0x2200007FL, 0},
            {0x03800001L, 1}, {0x00FFFFFFL, 1}, {0xFFFFFFFFL, 1}, {0x21FFFFFFL, 1},
            {0, 2}, {0x00800000L, 2}, {0xFF000000L, 2}, {0xFF800000L, 2}, {0x007FFFFFL, 2}, {0x0100FFFFL, 2}, {0x020000FFL, 2},
            {0x21010000L, 3}, {0x22000100L, 3}, {0x23000001L, 3}, {0x217FFFFFL, 3}, {0xFF000001L, 3}, {0xFF7FFFFFL, 3},
            {0x21008000L, 4}, {0x2100FFFFL, 4}, {0x22000080L, 4}, {0x220000FFL, 4},
            {-1, -1}, {MOST + 1, -1}, {Long.MIN_VALUE, -1}, {Long.MAX_VALUE, -1}, {EASY + (1L << 32), -1}};
        for (long[] pair : due) {
            due("fault(" + Long.toHexString(pair[0]) + ")", x.fault(pair[0]), pair[1]);
        }
    }

    private static void target() {
        TreeDesk x = new TreeDesk(5, 0);
        long[][] due = {
            {EASY, 0x7FFFFF0000000000L, 0, 0, 0}, {0x1D00FFFFL, 0x00000000FFFF0000L, 0, 0, 0},
            {0x2100FFFFL, 0xFFFF000000000000L, 0, 0, 0}, {0x220000FFL, 0xFF00000000000000L, 0, 0, 0},
            {0x1A123456L, 0x1234, 0x5600000000000000L, 0, 0}, {0x09123456L, 0, 0, 0x12, 0x3456000000000000L},
            {0x1B123456L, 0x123456, 0, 0, 0}, {0x13123456L, 0, 0x123456, 0, 0}, {0x0B123456L, 0, 0, 0x123456, 0},
            {0x03123456L, 0, 0, 0, 0x123456}, {0x02123456L, 0, 0, 0, 0x1234}, {0x01123456L, 0, 0, 0, 0x12},
            {0x00123456L, 0, 0, 0, 0}, {0x03923456L, 0, 0, 0, 0}, {0x21010000L, 0, 0, 0, 0}, {0x23000001L, 0, 0, 0, 0},
            {0x20800000L, 0, 0, 0, 0}, {-1, 0, 0, 0, 0}, {EASY + (1L << 32), 0, 0, 0, 0}};
        for (long[] row : due) {
            String told = "target(" + Long.toHexString(row[0]) + ", ";
            for (int k = 0; k < 4; k++) {
                due(told + k + ")", x.target(row[0], k), row[k + 1]);
            }
            for (int k : new int[] {-1, 4, Integer.MIN_VALUE, Integer.MAX_VALUE}) {
                due(told + k + ")", x.target(row[0], k), 0);
            }
        }
    }

    private static void compact() {
        TreeDesk x = new TreeDesk(5, 0);
        due("compact: 0", x.compact(0, 0, 0, 0), 0);
        due("compact: 1", x.compact(0, 0, 0, 1), 0x01010000L);
        due("compact: 7F", x.compact(0, 0, 0, 0x7F), 0x017F0000L);
        due("compact: 80", x.compact(0, 0, 0, 0x80), 0x02008000L);
        due("compact: 1234", x.compact(0, 0, 0, 0x1234), 0x02123400L);
        due("compact: 8234", x.compact(0, 0, 0, 0x8234), 0x03008234L);
        due("compact: 123456", x.compact(0, 0, 0, 0x123456), 0x03123456L);
        due("compact: 923456", x.compact(0, 0, 0, 0x923456), 0x04009234L);
        due("compact: rounded down", x.compact(0, 0, 0, 0x123456FFL), 0x04123456L);
        due("compact: over two longs", x.compact(0, 0x12, 0x3456FF0000000000L, 0), 0x11123456L);
        due("compact: a long of the sign alone", x.compact(0, 0, 0, Long.MIN_VALUE), 0x09008000L);
        due("compact: the limit", x.compact(0x7FFFFF0000000000L, 0, 0, 0), EASY);
        due("compact: 2 ^ 255", x.compact(Long.MIN_VALUE, 0, 0, 0), 0x21008000L);
        due("compact: the greatest", x.compact(-1, -1, -1, -1), 0x2100FFFFL);
    }

    public static void main(String[] args) {
        newObject();
        add();
        spoil();
        must();
        median();
        look();
        work();
        compareAndTip();
        size();
        below();
        fork();
        row();
        fault();
        target();
        compact();
        Check.end();
    }
}
