import java.util.Arrays;

/** Each sentence of 'Terms' on blocks, and of 'What it is', that names a boundary, on both sides of it. */
public final class TermsEdgesTest {
    private static final long MOST = Trees.MOST;
    private static final long EASY = Trees.EASY;
    private static final long HARD = Trees.HARD;

    private static void parents() {
        Check.sentence("A BLOCK has a PARENT (block 0, the ROOT, none)");
        TreeDesk x = Trees.branches();
        int[] parents = {-1, 0, 1, 2, 1, 4, 0};
        for (int i = 0; i < parents.length; i++) {
            Check.due("look(" + i + ", 0)", x.look(i, 0), parents[i]);
        }
    }

    private static void heights() {
        Check.sentence("A BLOCK has a HEIGHT (the root 0, others one more than the parent)");
        TreeDesk x = Trees.branches();
        int[] heights = {0, 1, 2, 3, 2, 3, 1};
        for (int i = 0; i < heights.length; i++) {
            Check.due("look(" + i + ", 1)", x.look(i, 1), heights[i]);
        }
        Check.due("the greatest height", Trees.deep().look(299, 1), 299);
    }

    private static void rootsBits() {
        Check.sentence("The root's bits are the limit's");
        for (int room : new int[] {2, 100, 300}) {
            TreeDesk x = new TreeDesk(room, 5);
            Check.due("look(0, 3)", x.look(0, 3), EASY);
            Check.due("must(0)", x.must(0), EASY);
            Check.due("their fault", x.fault(x.look(0, 3)), 0);
        }
    }

    /** What the eighth block of a chain adds to the work, if the first period had such a span. */
    private static void worth(long span, long bits, long due) {
        TreeDesk x = Trees.periods(span);
        Check.due("span " + span + ": must(7)", x.must(7), bits);
        Check.due("span " + span + ": add", x.add(7, 100000, bits), 8);
        Check.due("span " + span + ": work(8, 3)", x.work(8, 3), 16 + due);
        Check.due("span " + span + ": work(8, 2)", x.work(8, 2), 0);
    }

    private static void workRoundedDown() {
        Check.sentence("WORK: that of its parent and (2 ^ 256 / (target + 1)), rounded down");
        Check.due("the root's", new TreeDesk(2, 0).work(0, 3), 2);
        worth(4800, EASY, 2);
        worth(3201, 0x20555C28L, 2);
        worth(3200, 0x20555554L, 3);
        worth(2401, 0x204006D3L, 3);
        worth(2400, 0x203FFFFFL, 4);
        worth(1201, 0x202006D3L, 7);
        worth(1200, HARD, 8);
    }

    private static void workOfPowerOfTwo() {
        Check.sentence("WORK: 2 ^ 256 / (target + 1), not / target");
        TreeDesk x = Trees.period(11348);
        Trees.secondPeriod(x, 0x2023F258L, 20000, 24273);
        Check.due("add of a target 2 ^ 253", x.add(15, 24274, 0x20200000L), 16);
        Check.due("its work above its parent's", x.work(16, 3) - x.work(15, 3), 7);
        TreeDesk y = Trees.periods(1200);
        Check.due("add of a target just below 2 ^ 253", y.add(7, 100000, HARD), 8);
        Check.due("its work above its parent's", y.work(8, 3) - y.work(7, 3), 8);
    }

    private static void workOverOneLong() {
        Check.sentence("WORK is a number of 256 bits: where it goes over 31, 32, 63 and 64 of them");
        TreeDesk x = Trees.deep();
        long[][] due = {
            {112, 0, 1968541688L}, {113, 0, 2505416696L}, {116, 0, 4116041720L}, {117, 0, 4652916728L},
            {240, 0, 8454822205624509424L}, {241, 0, Long.parseUnsignedLong("10760682807158466544")},
            {244, 0, Long.parseUnsignedLong("17678264611760337904")},
            {245, 1, 1537381139584743408L}, {246, 1, 3843241741118700528L}, {299, 13653, 8070465192514814784L}};
        for (long[] row : due) {
            int block = (int) row[0];
            Check.due("work(" + block + ", 0)", x.work(block, 0), 0);
            Check.due("work(" + block + ", 1)", x.work(block, 1), 0);
            Check.due("work(" + block + ", 2)", x.work(block, 2), row[1]);
            Check.due("work(" + block + ", 3)", x.work(block, 3), row[2]);
        }
    }

    private static void bitsOfParent() {
        Check.sentence("MUST: if the child's height is no multiple of 8, those of p");
        long[] halves = {0x207FFFFFL, 0x203FFFFFL, 0x201FFFFFL, 0x200FFFFFL, 0x2007FFFFL, 0x2003FFFFL};
        TreeDesk x = Trees.periods(2400, 2400, 2400, 2400, 2400);
        for (int p = 0; p < 40; p++) {
            Check.due("look(" + p + ", 3)", x.look(p, 3), halves[p / 8]);
            Check.due("must(" + p + ")", x.must(p), halves[(p + 1) / 8]);
        }
    }

    /** The bits after a last period, the periods being of such spans. */
    private static void next(long due, long... spans) {
        TreeDesk x = Trees.periods(spans);
        int last = 8 * spans.length - 1;
        String told = "spans " + Arrays.toString(spans) + ": ";
        Check.due(told + "must(" + last + ")", x.must(last), due);
        Refusal.due(told + "one less", () -> Trees.periods(spans), y -> y.add(last, 3000000, due - 1), -3);
        Check.due(told + "add", x.add(last, 3000000, due), last + 1);
    }

    private static void sevenBelow() {
        Check.sentence("MUST: t the time of p less that of the block seven heights below it on p's branch");
        TreeDesk x = Trees.period(10007);
        // Two branches whose blocks come in turn; their periods begin at other times and end alike.
        int one = 7;
        int two = 7;
        for (int i = 0; i < 8; i++) {
            one = x.add(one, i == 0 ? 20000 : i == 7 ? 25000 : 20000 + i, HARD);
            two = x.add(two, i == 0 ? 22600 : i == 7 ? 25000 : 20000 + i, HARD);
        }
        Check.due("the last of one branch", one, 22);
        Check.due("the last of the other", two, 23);
        Check.due("a period of 5000", x.must(one), 0x20215554L);
        Check.due("a period of 2400", x.must(two), 0x200FFFFFL);
        Check.due("the root's period", x.must(7), HARD);
    }

    private static void leastSpan() {
        Check.sentence("MUST: t at least 1200");
        next(0x201FFFFFL, 6);
        next(0x201FFFFFL, 1199);
        next(0x201FFFFFL, 1200);
        next(0x202006D3L, 1201);
        next(0x2001FFFFL, 1200, 1200, 1199);
        next(0x2001FFFFL, 1200, 1200, 1200);
        next(0x2002006CL, 1200, 1200, 1201);
        for (long late : new long[] {20006, 20007, 20008, 21206, 50000, MOST}) {
            TreeDesk x = Trees.period(10007);
            Trees.secondPeriod(x, HARD, late, 20007);
            Check.due("a period that goes from " + late + " to 20007", x.must(15), 0x2007FFFFL);
        }
    }

    private static void greatestSpan() {
        Check.sentence("MUST: t at most 19200");
        next(0x201FFF8EL, 1200, 1200, 19199);
        next(0x201FFFFCL, 1200, 1200, 19200);
        next(0x201FFFFCL, 1200, 1200, 19201);
        next(0x201FFFFCL, 1200, 1200, 90000);
        TreeDesk x = Trees.period(10007);
        Trees.secondPeriod(x, HARD, 20000, MOST);
        Check.due("a period up to the most time", x.must(15), 0x207FFFFCL);
    }

    private static void targetRoundedDown() {
        Check.sentence("MUST: the compact bits of p's target * t / 4800, rounded down");
        next(0x207FF92BL, 4799);
        next(0x207FFFFFL, 4800);
        next(0x207FFFFEL, 4500, 5120);
        next(0x207FFFFEL, 2400, 9600);
        next(0x2000FFE4L, 1200, 1200, 1200, 2399);
        next(0x2000FFFFL, 1200, 1200, 1200, 2400);
        next(0x2001001AL, 1200, 1200, 1200, 2401);
        next(0x1F7FFFC0L, 1200, 1200, 1200, 1200);
        next(0x2000801BL, 1200, 1200, 1200, 1201);
    }

    private static void limitIfLess() {
        Check.sentence("MUST: or of the limit, if that is less");
        next(0x207FFFFEL, 1440, 16000);
        next(0x207FFFFFL, 2046, 11261);
        next(0x207FFFFFL, 2046, 11262);
        next(0x207FF92BL, 4799);
        // The limit itself, just above it, up to 2 ^ 256, just above that, and four times the limit.
        for (long span : new long[] {4800, 4801, 9599, 9600, 9601, 19199, 19200, 19201}) {
            next(0x207FFFFFL, span);
        }
        next(0x207FFFFFL, 4800, 4800);
        next(0x207FFFFCL, 1200, 19200);
        next(0x207FFFFFL, 1200, 19200, 4801);
    }

    private static void fewTimes() {
        Check.sentence("MEDIAN: of the times of p and the ten blocks below it (or as many as there are), number n / 2, rounded down");
        // Of rising times: which block's time is the median of 0, 1, 2, ..
        int[] midst = {0, 1, 1, 2, 2, 3, 3, 4, 4, 5, 5, 6, 7, 8, 9, 10};
        for (int i = 0; i < midst.length; i++) {
            int p = i;
            TreeDesk x = Trees.slowChain(p);
            long due = 1000 + 700L * midst[p];
            Check.due("of " + (p + 1) + " blocks: median(" + p + ")", x.median(p), due);
            Refusal.due("of " + (p + 1) + " blocks: add at the median", () -> Trees.slowChain(p), y -> y.add(p, due, EASY), -4);
            Check.due("of " + (p + 1) + " blocks: add above it", x.add(p, due + 1, x.must(p)), p + 1);
        }
    }

    /** A chain of so many blocks above a root whose time is far below theirs. */
    private static TreeDesk earlyRoot(int others) {
        TreeDesk x = new TreeDesk(300, 1000);
        for (int i = 1; i <= others; i++) {
            Check.due("above an early root: add", x.add(i - 1, 900000 + i, x.must(i - 1)), i);
        }
        return x;
    }

    private static void elevenTimes() {
        Check.sentence("MEDIAN: p and the ten blocks below it: the eleventh below is out");
        TreeDesk x = earlyRoot(12);
        Check.due("with the root's time: median(10)", x.median(10), 900005);
        Check.due("without it: median(11)", x.median(11), 900006);
        Check.due("without it: median(12)", x.median(12), 900007);
        TreeDesk y = Trees.slowChain(1);
        Check.due("a late one", y.add(1, 90000, EASY), 2);
        for (int i = 3; i <= 14; i++) {
            Check.due("behind a late one", y.add(i - 1, 2000 + i, y.must(i - 1)), i);
        }
        Check.due("the late one is the tenth below: median(12)", y.median(12), 2008);
        Check.due("the late one is out: median(13)", y.median(13), 2008);
        Check.due("the late one is out: median(14)", y.median(14), 2009);
    }

    private static void risingOrder() {
        Check.sentence("MEDIAN: in rising order");
        TreeDesk x = Trees.chain(300, 1000, 9000, 9001, 9500, 9400, 9300, 9350);
        long[] medians = {1000, 9000, 9000, 9001, 9001, 9300, 9300};
        for (int i = 0; i < medians.length; i++) {
            Check.due("median(" + i + ")", x.median(i), medians[i]);
        }
        TreeDesk like = Trees.chain(300, 1000, 1001, 1002, 1002);
        Check.due("two alike: median(3)", like.median(3), 1002);
        Check.due("two alike: add", like.add(3, 1002, EASY), -4);
        Check.due("two alike: add", like.add(3, 1003, EASY), 4);
        Check.due("two alike: median(4)", like.median(4), 1002);
        TreeDesk sign = Trees.chain(300, Integer.MAX_VALUE, 2147483648L, MOST);
        Check.due("times without a sign: median(2)", sign.median(2), 2147483648L);
        TreeDesk branches = Trees.branches();
        Check.due("on its branch: median(3)", branches.median(3), 1002);
        Check.due("on its branch: median(5)", branches.median(5), 1004);
        Check.due("on its branch: median(6)", branches.median(6), 1006);
    }

    private static void badBranches() {
        Check.sentence("all whose branch goes through a bad one are bad");
        TreeDesk x = Trees.branches();
        Check.due("spoil(4)", x.spoil(4), 2);
        long[] bad = {0, 0, 0, 0, 1, 1, 0};
        for (int i = 0; i < bad.length; i++) {
            Check.due("look(" + i + ", 4)", x.look(i, 4), bad[i]);
        }
        Check.due("no block comes behind a bad one", x.add(5, 5000, EASY), -2);
        Check.due("beside a bad one", x.add(1, 5000, EASY), 7);
        Check.due("it is not bad", x.look(7, 4), 0);
    }

    private static void tipNotBad() {
        Check.sentence("The TIP is of those that are not bad");
        TreeDesk x = Trees.branches();
        Check.due("first", x.tip(), 3);
        Check.due("spoil(5), not the tip", x.spoil(5), 1);
        Check.due("it stays", x.tip(), 3);
        Check.due("spoil(3)", x.spoil(3), 1);
        Check.due("of 2 and 4", x.tip(), 2);
        Check.due("spoil(1)", x.spoil(1), 3);
        Check.due("6 alone is left", x.tip(), 6);
        Check.due("spoil(6)", x.spoil(6), 1);
        Check.due("the root", x.tip(), 0);
        Check.due("a new one", x.add(0, 5000, EASY), 7);
        Check.due("it has less work than bad ones", x.compare(7, 3), -1);
        Check.due("the new one", x.tip(), 7);
        TreeDesk chain = Trees.chain(3, 0, 1, 2);
        Check.due("spoil(2)", chain.spoil(2), 1);
        Check.due("the root's child is left", chain.tip(), 1);
    }

    private static void tipOfMostWork() {
        Check.sentence("The TIP is the one with the most work, of like ones that which came first");
        TreeDesk x = Trees.hardTop();
        Check.due("one block of hard bits", x.tip(), 8);
        // The limit's work is 2: height 11 is worth 24, as are eight blocks and a hard one.
        for (int i = 9; i <= 19; i++) {
            int parent = i == 9 ? 0 : i - 1;
            Check.due("a slow branch", x.add(parent, 10000 + 700L * (i - 8), EASY), i);
            Check.due("less work or as much", x.tip(), 8);
        }
        Check.due("as much", x.compare(19, 8), 0);
        Check.due("a like one came later", x.tip(), 8);
        Check.due("one more", x.add(19, 30000, EASY), 20);
        Check.due("more work", x.tip(), 20);
        Check.due("and its like", x.add(19, 30001, EASY), 21);
        Check.due("the first of them", x.tip(), 20);
        Check.due("spoil(20)", x.spoil(20), 1);
        Check.due("the second of them", x.tip(), 21);
        Check.due("spoil(21)", x.spoil(21), 1);
        Check.due("of like ones the first again", x.tip(), 8);
        Check.due("spoil(8)", x.spoil(8), 1);
        Check.due("the other one", x.tip(), 19);
    }

    private static void ownMemory() {
        Check.sentence("All memory is the class's own");
        // Two desks in turn: what one has reckoned must not show in the other.
        TreeDesk one = Trees.deep();
        TreeDesk two = Trees.slowChain(7);
        Check.due("one: must(295)", one.must(295), 0x171FFFF0L);
        Check.due("two: must(7)", two.must(7), EASY);
        Check.due("two: median(7)", two.median(7), 1000 + 700 * 4);
        Check.due("one: median(299)", one.median(299), 294);
        Check.due("two: add", two.add(7, 9000, EASY), 8);
        Check.due("two: work(8, 3)", two.work(8, 3), 18);
        Check.due("two: spoil(1)", two.spoil(1), 8);
        Check.due("one: look(1, 4)", one.look(1, 4), 0);
        Check.due("one: tip()", one.tip(), 299);
        Check.due("one: size()", one.size(), 300);
    }

    private static int filler(TreeDesk x, int i) {
        switch (i % 6) {
            case 0: return x.add(0, 0, EASY) == -4 ? 0 : 1;
            case 1: return x.spoil(0);
            case 2: return x.must(i % 7) == EASY ? 0 : 1;
            case 3: return x.fork(i % 200, 3) <= 3 ? 0 : 1;
            case 4: return x.row(200, 9) == 191 ? 0 : 1;
            default: return x.compare(200, 199) - 1;
        }
    }

    /** A desk of 298 blocks above its root that has answered 511 calls. */
    private static TreeDesk afterCalls() {
        TreeDesk x = Trees.slowChain(298);
        int wrong = 0;
        for (int i = 298; i < 511; i++) {
            wrong += filler(x, i) == 0 ? 0 : 1;
        }
        Check.due("511 calls: those that went wrong", wrong, 0);
        return x;
    }

    private static void lastCalls() {
        Check.sentence("An object is used for at most 512 calls after it has been made");
        Check.due("call 512: add", afterCalls().add(298, 900000, EASY), 299);
        Check.due("call 512: a refused add", afterCalls().add(299, 900000, EASY), -1);
        Check.due("call 512: spoil", afterCalls().spoil(1), 298);
        Check.due("call 512: must", afterCalls().must(295), 0x207FFFFFL);
        Check.due("call 512: median", afterCalls().median(298), 1000 + 700 * 293);
        Check.due("call 512: look", afterCalls().look(298, 1), 298);
        Check.due("call 512: work", afterCalls().work(298, 3), 598);
        Check.due("call 512: compare", afterCalls().compare(297, 298), -1);
        Check.due("call 512: tip", afterCalls().tip(), 298);
        Check.due("call 512: size", afterCalls().size(), 299);
        Check.due("call 512: below", afterCalls().below(298, 1), 1);
        Check.due("call 512: fork", afterCalls().fork(298, 5), 5);
        Check.due("call 512: row", afterCalls().row(298, 16), 35);
        Check.due("call 512: fault", afterCalls().fault(EASY), 0);
        Check.due("call 512: target", afterCalls().target(EASY, 0), 0x7FFFFF0000000000L);
        Check.due("call 512: compact", afterCalls().compact(0, 0, 0, 128), 0x02008000L);
        TreeDesk refused = new TreeDesk(2, 0);
        for (int i = 0; i < 511; i++) {
            Check.due("a refused call", refused.add(0, 0, EASY), -4);
        }
        Check.due("call 512 after refused ones alone", refused.add(0, 1, EASY), 1);
    }

    public static void main(String[] args) {
        parents();
        heights();
        rootsBits();
        workRoundedDown();
        workOfPowerOfTwo();
        workOverOneLong();
        bitsOfParent();
        sevenBelow();
        leastSpan();
        greatestSpan();
        targetRoundedDown();
        limitIfLess();
        fewTimes();
        elevenTimes();
        risingOrder();
        badBranches();
        tipNotBad();
        tipOfMostWork();
        ownMemory();
        lastCalls();
        Check.end();
    }
}
