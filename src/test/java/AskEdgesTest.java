import java.util.function.ToLongFunction;

/** Each sentence of promises 4 to 13 that names a boundary, on both sides of it; no question changes anything. */
public final class AskEdgesTest {
    private static final long EASY = Trees.EASY;
    private static final int LEAST_INT = Integer.MIN_VALUE;
    private static final int MOST_INT = Integer.MAX_VALUE;
    /** Of Trees.branches(), whose blocks are 0 .. 6. */
    private static final int[] NONE = {LEAST_INT, LEAST_INT + 1, -7, -2, -1, 7, 8, 299, 300, 301, MOST_INT};

    private static void refused(String call, ToLongFunction<TreeDesk> asked, long due) {
        Refusal.due(call, Trees::branches, asked, due);
    }

    private static void due(String call, ToLongFunction<TreeDesk> asked, long due) {
        Check.due(call, asked.applyAsLong(Trees.branches()), due);
    }

    /** A full room of two: what lies behind its last block would lie behind its rows too. */
    private static TreeDesk full() {
        return Trees.chain(2, 1000, 1001);
    }

    private static void mustOfNone() {
        Check.sentence("promise 4: -1 if there is no such block");
        for (int none : NONE) {
            refused("must(" + none + ")", x -> x.must(none), -1);
        }
        due("must(0)", x -> x.must(0), EASY);
        due("must(6)", x -> x.must(6), EASY);
        Refusal.due("full: must(2)", AskEdgesTest::full, x -> x.must(2), -1);
        Check.due("full: must(1)", full().must(1), EASY);
        TreeDesk bad = Trees.period(10007);
        Check.due("spoil(1)", bad.spoil(1), 7);
        Check.due("a bad one: must(7)", bad.must(7), Trees.HARD);
    }

    private static void medianOfNone() {
        Check.sentence("promise 5: -1 if there is none such");
        for (int none : NONE) {
            refused("median(" + none + ")", x -> x.median(none), -1);
        }
        due("median(0)", x -> x.median(0), 1000);
        due("median(6)", x -> x.median(6), 1006);
        Refusal.due("full: median(2)", AskEdgesTest::full, x -> x.median(2), -1);
        Check.due("full: median(1)", full().median(1), 1001);
        TreeDesk bad = full();
        Check.due("spoil(1)", bad.spoil(1), 1);
        Check.due("a bad one: median(1)", bad.median(1), 1001);
    }

    private static void lookAtNone() {
        Check.sentence("promise 6: -1 for no such block");
        for (int none : NONE) {
            for (int i = -1; i <= 6; i++) {
                int what = i;
                refused("look(" + none + ", " + what + ")", x -> x.look(none, what), -1);
            }
        }
        Refusal.due("full: look(2, 2)", AskEdgesTest::full, x -> x.look(2, 2), -1);
        Check.due("full: look(1, 2)", full().look(1, 2), 1001);
        due("look(0, 2)", x -> x.look(0, 2), 1000);
        due("look(6, 2)", x -> x.look(6, 2), 1006);
    }

    private static void lookForNoWhat() {
        Check.sentence("promise 6: -1 for no such what");
        for (int block = 0; block < 7; block++) {
            int of = block;
            for (int what : new int[] {LEAST_INT, -2, -1, 6, 7, 32, MOST_INT}) {
                refused("look(" + of + ", " + what + ")", x -> x.look(of, what), -1);
            }
        }
        due("look(4, 0)", x -> x.look(4, 0), 1);
        due("look(4, 5)", x -> x.look(4, 5), 1);
    }

    private static void lookAtTheRoot() {
        Check.sentence("promise 6: 0 parent (-1 the root)");
        due("look(0, 0)", x -> x.look(0, 0), -1);
        due("look(1, 0)", x -> x.look(1, 0), 0);
        due("look(6, 0)", x -> x.look(6, 0), 0);
    }

    private static void lookForBad() {
        Check.sentence("promise 6: 4 whether it is bad (1 or 0)");
        TreeDesk x = Trees.branches();
        Check.due("look(2, 4)", x.look(2, 4), 0);
        Check.due("spoil(2)", x.spoil(2), 2);
        Check.due("its parent", x.look(1, 4), 0);
        Check.due("it", x.look(2, 4), 1);
        Check.due("its child", x.look(3, 4), 1);
        Check.due("the next number", x.look(4, 4), 0);
        Check.due("the root", x.look(0, 4), 0);
    }

    private static void lookForChildren() {
        Check.sentence("promise 6: 5 how many children");
        TreeDesk x = Trees.branches();
        int[] children = {2, 2, 1, 0, 1, 0, 0};
        for (int i = 0; i < children.length; i++) {
            Check.due("look(" + i + ", 5)", x.look(i, 5), children[i]);
        }
        Check.due("a refused child", x.add(3, 0, EASY), -4);
        Check.due("is none", x.look(3, 5), 0);
        Check.due("a child", x.add(3, 5000, EASY), 7);
        Check.due("is one", x.look(3, 5), 1);
        Check.due("spoil(4)", x.spoil(4), 2);
        Check.due("a bad child is one", x.look(1, 5), 2);
        Check.due("of a bad one too", x.look(4, 5), 1);
        Check.due("as many as there can be", Trees.star(300, 300).look(0, 5), 299);
    }

    private static void workOfNone() {
        Check.sentence("promise 7: 0 for none (no such block)");
        for (int none : NONE) {
            for (int i = 0; i < 4; i++) {
                int k = i;
                refused("work(" + none + ", " + k + ")", x -> x.work(none, k), 0);
            }
        }
        Refusal.due("full: work(2, 3)", AskEdgesTest::full, x -> x.work(2, 3), 0);
        Check.due("full: work(1, 3)", full().work(1, 3), 4);
        due("work(0, 3)", x -> x.work(0, 3), 2);
        due("work(6, 3)", x -> x.work(6, 3), 4);
    }

    private static void workOfNoLong() {
        Check.sentence("promise 7: Long k (0 .. 3); 0 for none");
        for (int k : new int[] {LEAST_INT, -5, -4, -2, -1, 4, 5, 7, 8, MOST_INT}) {
            for (int i = 0; i < 7; i++) {
                int block = i;
                refused("work(" + block + ", " + k + ")", x -> x.work(block, k), 0);
            }
            Refusal.due("full: work(1, " + k + ")", AskEdgesTest::full, x -> x.work(1, k), 0);
        }
        long[] longs = {0, 0, 13653, 8070465192514814784L};
        TreeDesk deep = Trees.deep();
        for (int k = 0; k < longs.length; k++) {
            Check.due("work(299, " + k + ")", deep.work(299, k), longs[k]);
        }
        Check.due("work(299, 4)", deep.work(299, 4), 0);
        Check.due("work(299, -1)", deep.work(299, -1), 0);
    }

    private static void compareOfNone() {
        Check.sentence("promise 8: -2 if there is none such");
        for (int none : NONE) {
            refused("compare(" + none + ", 0)", x -> x.compare(none, 0), -2);
            refused("compare(0, " + none + ")", x -> x.compare(0, none), -2);
            refused("compare(6, " + none + ")", x -> x.compare(6, none), -2);
            refused("compare(" + none + ", " + none + ")", x -> x.compare(none, none), -2);
            refused("compare(" + none + ", 7)", x -> x.compare(none, 7), -2);
        }
        Refusal.due("full: compare(1, 2)", AskEdgesTest::full, x -> x.compare(1, 2), -2);
        Refusal.due("full: compare(2, 1)", AskEdgesTest::full, x -> x.compare(2, 1), -2);
        due("compare(0, 6)", x -> x.compare(0, 6), -1);
        due("compare(6, 0)", x -> x.compare(6, 0), 1);
    }

    private static void compareOfWork() {
        Check.sentence("promise 8: -1 if block a has less work than block b, 0 as much, 1 more");
        TreeDesk x = Trees.branches();
        // By their heights, all having the same bits.
        int[] heights = {0, 1, 2, 3, 2, 3, 1};
        for (int a = 0; a < heights.length; a++) {
            for (int b = 0; b < heights.length; b++) {
                Check.due("compare(" + a + ", " + b + ")", x.compare(a, b), Integer.compare(heights[a], heights[b]));
            }
        }
        Check.due("spoil(3)", x.spoil(3), 1);
        Check.due("a bad one: compare(3, 5)", x.compare(3, 5), 0);
        Check.due("a bad one: compare(3, 2)", x.compare(3, 2), 1);
        TreeDesk deep = Trees.deep();
        for (int block : new int[] {1, 113, 117, 240, 241, 242, 244, 245, 246, 250, 253, 256, 299}) {
            Check.due("compare(" + block + ", one before)", deep.compare(block, block - 1), 1);
            Check.due("compare(one before, " + block + ")", deep.compare(block - 1, block), -1);
            Check.due("compare(" + block + ", itself)", deep.compare(block, block), 0);
        }
        // More in the third long and less in the fourth one.
        Check.due("compare(244, 245)", deep.compare(244, 245), -1);
        Check.due("compare(245, 244)", deep.compare(245, 244), 1);
    }

    private static void tips() {
        Check.sentence("promise 9: The TIP: its number (the root, 0, can't be bad)");
        Check.due("the root alone", new TreeDesk(2, 0).tip(), 0);
        Check.due("full", full().tip(), 1);
        TreeDesk x = full();
        Check.due("spoil(0)", x.spoil(0), 0);
        Check.due("after spoil(0)", x.tip(), 1);
        Check.due("spoil(1)", x.spoil(1), 1);
        Check.due("the root is left", x.tip(), 0);
        Check.due("the greatest", Trees.deep().tip(), 299);
    }

    private static void sizes() {
        Check.sentence("promise 10: How many blocks there are");
        Check.due("the root alone", new TreeDesk(2, 0).size(), 1);
        Check.due("full", full().size(), 2);
        TreeDesk x = full();
        Check.due("no room", x.add(1, 5000, EASY), -5);
        Check.due("after a refused one", x.size(), 2);
        Check.due("spoil(1)", x.spoil(1), 1);
        Check.due("bad ones too", x.size(), 2);
        Check.due("the most", Trees.star(300, 300).size(), 300);
    }

    private static void belowOfNone() {
        Check.sentence("promise 11: -1 if there is none (no such block)");
        for (int none : NONE) {
            for (int height : new int[] {-1, 0, 1, 3}) {
                refused("below(" + none + ", " + height + ")", x -> x.below(none, height), -1);
            }
        }
        Refusal.due("full: below(2, 0)", AskEdgesTest::full, x -> x.below(2, 0), -1);
        Check.due("full: below(1, 0)", full().below(1, 0), 0);
        Check.due("full: below(1, 1)", full().below(1, 1), 1);
    }

    private static void belowAtNoHeight() {
        Check.sentence("promise 11: The block of a height on the branch of a block; -1 if there is none (no such height)");
        int[][] branches = {{0}, {0, 1}, {0, 1, 2}, {0, 1, 2, 3}, {0, 1, 4}, {0, 1, 4, 5}, {0, 6}};
        for (int i = 0; i < branches.length; i++) {
            int block = i;
            int above = branches[block].length;
            for (int height = 0; height < above; height++) {
                int at = height;
                due("below(" + block + ", " + at + ")", x -> x.below(block, at), branches[block][at]);
            }
            for (int none : new int[] {LEAST_INT, -2, -1, above, above + 1, MOST_INT}) {
                refused("below(" + block + ", " + none + ")", x -> x.below(block, none), -1);
            }
        }
        TreeDesk deep = Trees.deep();
        for (int height : new int[] {0, 1, 150, 298, 299}) {
            Check.due("below(299, " + height + ")", deep.below(299, height), height);
        }
        Check.due("below(299, 300)", deep.below(299, 300), -1);
    }

    private static void forkOfNone() {
        Check.sentence("promise 12: -1 if there is none such");
        for (int none : NONE) {
            refused("fork(" + none + ", 0)", x -> x.fork(none, 0), -1);
            refused("fork(0, " + none + ")", x -> x.fork(0, none), -1);
            refused("fork(6, " + none + ")", x -> x.fork(6, none), -1);
            refused("fork(" + none + ", " + none + ")", x -> x.fork(none, none), -1);
            refused("fork(" + none + ", 7)", x -> x.fork(none, 7), -1);
        }
        Refusal.due("full: fork(1, 2)", AskEdgesTest::full, x -> x.fork(1, 2), -1);
        Refusal.due("full: fork(2, 2)", AskEdgesTest::full, x -> x.fork(2, 2), -1);
        Check.due("full: fork(1, 1)", full().fork(1, 1), 1);
        Check.due("full: fork(1, 0)", full().fork(1, 0), 0);
    }

    private static void forkOfGreatestHeight() {
        Check.sentence("promise 12: The block of the greatest height that is on the branches of both");
        int[][] forks = {
            {0, 0, 0, 0, 0, 0, 0}, {0, 1, 1, 1, 1, 1, 0}, {0, 1, 2, 2, 1, 1, 0}, {0, 1, 2, 3, 1, 1, 0},
            {0, 1, 1, 1, 4, 4, 0}, {0, 1, 1, 1, 4, 5, 0}, {0, 0, 0, 0, 0, 0, 6}};
        TreeDesk x = Trees.branches();
        for (int a = 0; a < forks.length; a++) {
            for (int b = 0; b < forks.length; b++) {
                Check.due("fork(" + a + ", " + b + ")", x.fork(a, b), forks[a][b]);
            }
        }
        Check.due("spoil(1)", x.spoil(1), 5);
        Check.due("bad ones: fork(3, 5)", x.fork(3, 5), 1);
        TreeDesk deep = Trees.deep();
        Check.due("fork(299, 298)", deep.fork(299, 298), 298);
        Check.due("fork(299, 0)", deep.fork(299, 0), 0);
        Check.due("fork(0, 299)", deep.fork(0, 299), 0);
        // Two branches of like length whose blocks come in turn: the longest way that there is.
        TreeDesk two = new TreeDesk(300, 0);
        for (int i = 1; i < 300; i++) {
            Check.due("in turn: add", two.add(Math.max(0, i - 2), 1000L * i, EASY), i);
        }
        Check.due("in turn: fork(298, 299)", two.fork(298, 299), 0);
        Check.due("in turn: fork(299, 298)", two.fork(299, 298), 0);
        Check.due("in turn: fork(299, 1)", two.fork(299, 1), 1);
    }

    private static void rowOfNone() {
        Check.sentence("promise 13: -1 if there is none (no such block)");
        for (int none : NONE) {
            for (int k : new int[] {-1, 0, 1}) {
                refused("row(" + none + ", " + k + ")", x -> x.row(none, k), -1);
            }
        }
        Refusal.due("full: row(2, 0)", AskEdgesTest::full, x -> x.row(2, 0), -1);
        Check.due("full: row(1, 0)", full().row(1, 0), 1);
        Check.due("full: row(1, 1)", full().row(1, 1), 0);
    }

    /** A slow chain's row of a block: its numbers are heights. */
    private static void row(int block, int... due) {
        TreeDesk x = Trees.slowChain(block);
        for (int k = 0; k < due.length; k++) {
            Check.due("row(" + block + ", " + k + ")", x.row(block, k), due[k]);
        }
        Check.due("row(" + block + ", " + due.length + "), behind the root", x.row(block, due.length), -1);
        Check.due("row(" + block + ", " + (due.length + 1) + ")", x.row(block, due.length + 1), -1);
    }

    private static void rowNumbers() {
        Check.sentence("promise 13: Number k (from 0 on); with the root the row ends; -1 if there is none");
        for (int k : new int[] {LEAST_INT, -2, -1, 4, 5, 31, 32, 33, 64, MOST_INT}) {
            refused("row(5, " + k + ")", x -> x.row(5, k), -1);
            refused("row(0, " + k + ")", x -> x.row(0, k), -1);
        }
        refused("row(0, 1)", x -> x.row(0, 1), -1);
        due("row(0, 0)", x -> x.row(0, 0), 0);
        due("row(5, 0)", x -> x.row(5, 0), 5);
        due("row(5, 1)", x -> x.row(5, 1), 4);
        due("row(5, 2)", x -> x.row(5, 2), 1);
        due("row(5, 3)", x -> x.row(5, 3), 0);
        Refusal.due("a long one: row(299, 18)", Trees::deep, x -> x.row(299, 18), -1);
        Refusal.due("a long one: row(299, 299)", Trees::deep, x -> x.row(299, 299), -1);
        Refusal.due("a long one: row(299, 300)", Trees::deep, x -> x.row(299, 300), -1);
        Refusal.due("a long one: row(299, the most)", Trees::deep, x -> x.row(299, MOST_INT), -1);
    }

    private static void nineSingleSteps() {
        Check.sentence("promise 13: 1 nine times, then 2, 4, 8, ..");
        row(0, 0);
        row(1, 1, 0);
        row(8, 8, 7, 6, 5, 4, 3, 2, 1, 0);
        row(9, 9, 8, 7, 6, 5, 4, 3, 2, 1, 0);
        row(12, 12, 11, 10, 9, 8, 7, 6, 5, 4, 3, 1, 0);
        row(20, 20, 19, 18, 17, 16, 15, 14, 13, 12, 11, 9, 5, 0);
        row(40, 40, 39, 38, 37, 36, 35, 34, 33, 32, 31, 29, 25, 17, 1, 0);
        row(299, 299, 298, 297, 296, 295, 294, 293, 292, 291, 290, 288, 284, 276, 260, 228, 164, 36, 0);
    }

    private static void stepsBelowTheRoot() {
        Check.sentence("promise 13: a step that would go below the root goes to the root");
        // Each step of 2, 4, 8, .. once as one too far, once as far as the root, once to the block above it.
        row(10, 10, 9, 8, 7, 6, 5, 4, 3, 2, 1, 0);
        row(11, 11, 10, 9, 8, 7, 6, 5, 4, 3, 2, 0);
        row(12, 12, 11, 10, 9, 8, 7, 6, 5, 4, 3, 1, 0);
        row(14, 14, 13, 12, 11, 10, 9, 8, 7, 6, 5, 3, 0);
        row(15, 15, 14, 13, 12, 11, 10, 9, 8, 7, 6, 4, 0);
        row(16, 16, 15, 14, 13, 12, 11, 10, 9, 8, 7, 5, 1, 0);
        row(22, 22, 21, 20, 19, 18, 17, 16, 15, 14, 13, 11, 7, 0);
        row(23, 23, 22, 21, 20, 19, 18, 17, 16, 15, 14, 12, 8, 0);
        row(24, 24, 23, 22, 21, 20, 19, 18, 17, 16, 15, 13, 9, 1, 0);
        row(262, 262, 261, 260, 259, 258, 257, 256, 255, 254, 253, 251, 247, 239, 223, 191, 127, 0);
        row(263, 263, 262, 261, 260, 259, 258, 257, 256, 255, 254, 252, 248, 240, 224, 192, 128, 0);
        row(264, 264, 263, 262, 261, 260, 259, 258, 257, 256, 255, 253, 249, 241, 225, 193, 129, 1, 0);
    }

    private static void rowOfABranch() {
        Check.sentence("promise 13: each time so many heights below the one before on its branch");
        TreeDesk x = new TreeDesk(300, 0);
        for (int i = 1; i <= 24; i++) {
            Check.due("in turn: add", x.add(Math.max(0, i - 2), 1000L * i, EASY), i);
        }
        int[] even = {24, 22, 20, 18, 16, 14, 12, 10, 8, 6, 2, 0, -1};
        int[] odd = {23, 21, 19, 17, 15, 13, 11, 9, 7, 5, 1, 0, -1};
        for (int k = 0; k < even.length; k++) {
            Check.due("row(24, " + k + ")", x.row(24, k), even[k]);
            Check.due("row(23, " + k + ")", x.row(23, k), odd[k]);
        }
    }

    public static void main(String[] args) {
        mustOfNone();
        medianOfNone();
        lookAtNone();
        lookForNoWhat();
        lookAtTheRoot();
        lookForBad();
        lookForChildren();
        workOfNone();
        workOfNoLong();
        compareOfNone();
        compareOfWork();
        tips();
        sizes();
        belowOfNone();
        belowAtNoHeight();
        forkOfNone();
        forkOfGreatestHeight();
        rowOfNone();
        rowNumbers();
        nineSingleSteps();
        stepsBelowTheRoot();
        rowOfABranch();
        Check.end();
    }
}
