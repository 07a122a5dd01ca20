import java.util.function.Supplier;

/** Each sentence of promises 1 to 3 (a new object, add, spoil) that names a boundary, on both sides of it. */
public final class ChangeEdgesTest {
    private static final long MOST = Trees.MOST;
    private static final long EASY = Trees.EASY;
    private static final long HARD = Trees.HARD;
    private static final int LEAST_INT = Integer.MIN_VALUE;
    private static final int MOST_INT = Integer.MAX_VALUE;

    private static TreeDesk full() {
        return Trees.halfBad(5);
    }

    private static TreeDesk roomForOne() {
        return Trees.halfBad(6);
    }

    /** 0 - 1 - 2, with room for one more; the median of 2 is 1001. */
    private static TreeDesk three() {
        return Trees.chain(4, 1000, 1001, 1002);
    }

    private static void refusedAdd(String why, Supplier<TreeDesk> made, int due, int parent, long time, long bits) {
        String told = why + ": add(" + parent + ", " + time + ", " + Long.toHexString(bits) + ")";
        Refusal.due(told, made, x -> x.add(parent, time, bits), due);
    }

    private static void added(String why, TreeDesk x, int due, int parent, long time, long bits) {
        Check.due(why + ": add(" + parent + ", " + time + ", " + Long.toHexString(bits) + ")", x.add(parent, time, bits), due);
        Check.due(why + ": its parent", x.look(due, 0), parent);
        Check.due(why + ": its time", x.look(due, 2), time);
        Check.due(why + ": its bits", x.look(due, 3), bits);
        Check.due(why + ": size()", x.size(), due + 1);
    }

    private static void rootsTime() {
        Check.sentence("promise 1: The root with a time (as a number without a sign)");
        int[] given = {0, 1, MOST_INT - 1, MOST_INT, LEAST_INT, LEAST_INT + 1, -2, -1};
        long[] told = {0, 1, 2147483646L, 2147483647L, 2147483648L, 2147483649L, 4294967294L, 4294967295L};
        for (int i = 0; i < given.length; i++) {
            TreeDesk x = new TreeDesk(2, given[i]);
            Check.due("time " + given[i] + ": look(0, 2)", x.look(0, 2), told[i]);
            Check.due("time " + given[i] + ": median(0)", x.median(0), told[i]);
            Check.due("time " + given[i] + ": a child of that time", x.add(0, told[i], EASY), -4);
            Check.due("time " + given[i] + ": a child of one more", x.add(0, told[i] + 1, EASY), told[i] == MOST ? -4 : 1);
        }
    }

    private static void room(int asked, int blocks) {
        TreeDesk x = Trees.star(asked, blocks);
        Check.due("asked for " + asked + ": all that there is room for", x.size(), blocks);
        Check.due("asked for " + asked + ": the last one", x.look(blocks - 1, 2), blocks - 1);
        Refusal.due("asked for " + asked + ": one too many", () -> Trees.star(asked, blocks), y -> y.add(0, 1, EASY), -5);
    }

    private static void roomAsAsked() {
        Check.sentence("promise 1: At most so many blocks, if that is 2 .. 300");
        room(2, 2);
        room(3, 3);
        room(99, 99);
        room(100, 100);
        room(101, 101);
        room(299, 299);
        room(300, 300);
    }

    private static void roomOfHundred() {
        Check.sentence("promise 1: otherwise 100");
        for (int asked : new int[] {LEAST_INT, -300, -2, -1, 0, 1, 301, 302, 65538, MOST_INT}) {
            room(asked, 100);
        }
    }

    private static void numbers() {
        Check.sentence("A BLOCK is 0, 1, 2, .. in the order in which they came; add: its number");
        TreeDesk x = new TreeDesk(5, 1000);
        added("first", x, 1, 0, 1001, EASY);
        Check.due("a refused one", x.add(0, 1000, EASY), -4);
        added("a refused one takes no number", x, 2, 1, 1002, EASY);
        Check.due("spoil(2)", x.spoil(2), 1);
        added("a bad one keeps its number", x, 3, 0, 1003, EASY);
        added("the last one", x, 4, 3, 1004, EASY);
    }

    private static void noParent() {
        Check.sentence("promise 2: -1 there is no such parent");
        for (int none : new int[] {LEAST_INT, -2, -1, 3, 4, 5, 300, MOST_INT}) {
            refusedAdd("all else right", ChangeEdgesTest::three, -1, none, 5000, EASY);
            refusedAdd("wrong bits", ChangeEdgesTest::three, -1, none, 5000, EASY - 1);
            refusedAdd("wrong time", ChangeEdgesTest::three, -1, none, 0, EASY);
        }
        for (int none : new int[] {LEAST_INT, -1, 5, 6, MOST_INT}) {
            refusedAdd("no room", ChangeEdgesTest::full, -1, none, 5000, EASY);
            refusedAdd("all wrong", ChangeEdgesTest::full, -1, none, -1, -1);
        }
        added("the first parent", three(), 3, 0, 5000, EASY);
        added("the last parent", three(), 3, 2, 5000, EASY);
        TreeDesk next = three();
        added("the next number", next, 3, 2, 5000, EASY);
        Check.due("the next number is a parent then, without room", next.add(3, 5000, EASY), -5);
    }

    private static void badParent() {
        Check.sentence("promise 2: -2 the parent is bad");
        for (int bad : new int[] {3, 4}) {
            refusedAdd("all else right", ChangeEdgesTest::roomForOne, -2, bad, 5000, EASY);
            refusedAdd("wrong bits", ChangeEdgesTest::roomForOne, -2, bad, 5000, EASY - 1);
            refusedAdd("wrong time", ChangeEdgesTest::roomForOne, -2, bad, 1000, EASY);
            refusedAdd("no room", ChangeEdgesTest::full, -2, bad, 5000, EASY);
            refusedAdd("all wrong", ChangeEdgesTest::full, -2, bad, -1, -1);
        }
        for (int good : new int[] {0, 1, 2}) {
            added("beside the bad ones", roomForOne(), 5, good, 5000, EASY);
        }
        TreeDesk above = Trees.chain(9, 1000, 1001, 1002, 1003);
        Check.due("spoil(2)", above.spoil(2), 2);
        Check.due("the bad one", above.add(2, 5000, EASY), -2);
        Check.due("behind the bad one", above.add(3, 5000, EASY), -2);
        added("ahead of the bad one", above, 4, 1, 5000, EASY);
    }

    private static void otherBits() {
        Check.sentence("promise 2: -3 bits are not those that it must have");
        long[] others = {EASY - 1, EASY + 1, EASY | 0x800000, EASY + MOST + 1, EASY | Long.MIN_VALUE, HARD, 0, -1, MOST, MOST + 1,
            Long.MIN_VALUE, Long.MAX_VALUE};
        for (long other : others) {
            refusedAdd("all else right", ChangeEdgesTest::three, -3, 2, 5000, other);
            refusedAdd("time as the median", ChangeEdgesTest::three, -3, 2, 1001, other);
            refusedAdd("time too great", ChangeEdgesTest::three, -3, 2, MOST + 1, other);
            refusedAdd("no room", ChangeEdgesTest::full, -3, 2, 5000, other);
            refusedAdd("no room, wrong time", ChangeEdgesTest::full, -3, 2, -1, other);
        }
        added("those that it must have", three(), 3, 2, 5000, EASY);
    }

    private static void bitsOfPeriods() {
        Check.sentence("promise 2: -3, where the bits change: at a height that is a multiple of 8");
        refusedAdd("height 7, bits too early", () -> Trees.chain(300, 0, 1, 2, 3, 4, 5, 6), -3, 6, 7, HARD);
        refusedAdd("height 7, bits that height 8 must have", () -> Trees.period(10007), -3, 6, 10008, HARD);
        refusedAdd("height 8, bits of before", () -> Trees.period(10007), -3, 7, 10008, EASY);
        refusedAdd("height 8, one less", () -> Trees.period(10007), -3, 7, 10008, HARD - 1);
        refusedAdd("height 8, one more", () -> Trees.period(10007), -3, 7, 10008, HARD + 1);
        added("height 8", Trees.period(10007), 8, 7, 10008, HARD);
        refusedAdd("height 9, bits of before", Trees::hardTop, -3, 8, 10009, EASY);
        added("height 9", Trees.hardTop(), 9, 8, 10009, HARD);
    }

    /** A chain of two periods after which the bits must be 20 20 00 00: these have other ways to be told. */
    private static TreeDesk roundTarget() {
        TreeDesk x = Trees.period(11348);
        Trees.secondPeriod(x, 0x2023F258L, 20000, 24273);
        return x;
    }

    private static void bitsOfTheSameTarget() {
        Check.sentence("promise 2: -3, by the bits and not by their target");
        TreeDesk x = roundTarget();
        Check.due("must(15)", x.must(15), 0x20200000L);
        Check.due("the same target", x.target(0x21002000L, 0), x.target(0x20200000L, 0));
        Check.due("the same target", x.target(0x22000020L, 0), x.target(0x20200000L, 0));
        refusedAdd("the same target", ChangeEdgesTest::roundTarget, -3, 15, 30000, 0x21002000L);
        refusedAdd("the same target", ChangeEdgesTest::roundTarget, -3, 15, 30000, 0x22000020L);
        added("the bits themselves", x, 16, 15, 30000, 0x20200000L);
    }

    private static void timeAboveMedian() {
        Check.sentence("promise 2: -4 time is not above the median of the parent");
        for (long time : new long[] {1001, 1000, 1, 0}) {
            refusedAdd("room left", ChangeEdgesTest::three, -4, 2, time, EASY);
            refusedAdd("no room", ChangeEdgesTest::full, -4, 2, time, EASY);
        }
        added("one above", three(), 3, 2, 1002, EASY);
        refusedAdd("of the root", ChangeEdgesTest::three, -4, 0, 1000, EASY);
        added("one above the root", three(), 3, 0, 1001, EASY);
        refusedAdd("above the parent's time counts for nothing", () -> Trees.chain(9, 1000, 5000, 6000), -4, 2, 5000, EASY);
        added("below the parent's time", Trees.chain(9, 1000, 5000, 6000), 3, 2, 5001, EASY);
        refusedAdd("without a sign", () -> new TreeDesk(5, LEAST_INT), -4, 0, 2147483648L, EASY);
        refusedAdd("without a sign", () -> new TreeDesk(5, LEAST_INT), -4, 0, 1, EASY);
        added("without a sign, one above", new TreeDesk(5, LEAST_INT), 1, 0, 2147483649L, EASY);
    }

    private static void timeAsSaid() {
        Check.sentence("promise 2: -4 (or not as said): a TIME is 0 .. 2 ^ 32 - 1");
        for (long time : new long[] {-1, Long.MIN_VALUE, Long.MIN_VALUE + 5000, MOST + 1, MOST + 5001, Long.MAX_VALUE}) {
            refusedAdd("room left", ChangeEdgesTest::three, -4, 2, time, EASY);
            refusedAdd("no room", ChangeEdgesTest::full, -4, 2, time, EASY);
        }
        refusedAdd("time 0 above nothing", () -> new TreeDesk(5, 0), -4, 0, 0, EASY);
        refusedAdd("time -1 above nothing", () -> new TreeDesk(5, 0), -4, 0, -1, EASY);
        added("time 1", new TreeDesk(5, 0), 1, 0, 1, EASY);
        added("the most but one", three(), 3, 2, MOST - 1, EASY);
        added("the most", three(), 3, 2, MOST, EASY);
        added("the most above the most but one", new TreeDesk(5, -2), 1, 0, MOST, EASY);
        refusedAdd("the most above the most", () -> new TreeDesk(5, -1), -4, 0, MOST, EASY);
        refusedAdd("more than the most above the most", () -> new TreeDesk(5, -1), -4, 0, MOST + 1, EASY);
    }

    private static void noRoom() {
        Check.sentence("promise 2: -5 there is no room");
        for (int parent : new int[] {0, 1, 2}) {
            added("room for one", roomForOne(), 5, parent, 5000, EASY);
            refusedAdd("full", ChangeEdgesTest::full, -5, parent, 5000, EASY);
        }
        refusedAdd("the least room", () -> Trees.chain(2, 0, 1), -5, 1, 5, EASY);
        refusedAdd("full at a period's end", () -> Trees.chain(8, 0, 1, 2, 3, 4, 5, 6, 7), -5, 7, 8, HARD);
        refusedAdd("full, and bits of before", () -> Trees.chain(8, 0, 1, 2, 3, 4, 5, 6, 7), -3, 7, 8, EASY);
        TreeDesk x = full();
        Check.due("bad ones give no room: spoil(1)", x.spoil(1), 2);
        Check.due("bad ones give no room", x.add(0, 5000, EASY), -5);
        Check.due("again and again", x.add(0, 5000, EASY), -5);
        Check.due("size()", x.size(), 5);
    }

    private static void refusedSpoil(String why, int block) {
        Refusal.due(why + ": spoil(" + block + ")", ChangeEdgesTest::roomForOne, x -> x.spoil(block), 0);
    }

    private static void spoilOfNone() {
        Check.sentence("promise 3: 0 if there is no such one");
        for (int none : new int[] {LEAST_INT, -2, -1, 5, 6, 7, 300, MOST_INT}) {
            refusedSpoil("none", none);
        }
        Refusal.due("none in a full room: spoil(5)", ChangeEdgesTest::full, x -> x.spoil(5), 0);
        Refusal.due("none but the root: spoil(1)", () -> new TreeDesk(300, 0), x -> x.spoil(1), 0);
        TreeDesk x = three();
        Check.due("the last one", x.spoil(2), 1);
        Check.due("the last one is bad", x.look(2, 4), 1);
        TreeDesk y = three();
        Check.due("not yet", y.spoil(3), 0);
        added("what was spoiled too early", y, 3, 2, 5000, EASY);
        Check.due("is not bad", y.look(3, 4), 0);
        Check.due("now", y.spoil(3), 1);
    }

    private static void spoilOfTheRoot() {
        Check.sentence("promise 3: 0 if it is the root; promise 9: the root, 0, can't be bad");
        refusedSpoil("the root", 0);
        Refusal.due("the root alone: spoil(0)", () -> new TreeDesk(2, 0), x -> x.spoil(0), 0);
        TreeDesk x = three();
        Check.due("the next one: spoil(1)", x.spoil(1), 2);
        Check.due("all but the root: look(0, 4)", x.look(0, 4), 0);
        Check.due("all but the root: spoil(0)", x.spoil(0), 0);
        Check.due("all but the root: tip()", x.tip(), 0);
        added("all but the root", x, 3, 0, 5000, EASY);
    }

    private static void spoilOfBad() {
        Check.sentence("promise 3: 0 if it is bad");
        refusedSpoil("spoiled before", 3);
        refusedSpoil("bad by its parent", 4);
        TreeDesk x = roomForOne();
        Check.due("not bad: spoil(2)", x.spoil(2), 1);
        Check.due("bad now: spoil(2)", x.spoil(2), 0);
        Check.due("not bad: spoil(1)", x.spoil(1), 1);
        Check.due("bad now: spoil(1)", x.spoil(1), 0);
    }

    private static void spoilOfAllBehind() {
        Check.sentence("promise 3: A block is bad (and all behind it): how many got bad");
        int[] counts = {0, 5, 2, 1, 2, 1, 1};
        long[][] bad = {{0, 0, 0, 0, 0, 0, 0}, {0, 1, 1, 1, 1, 1, 0}, {0, 0, 1, 1, 0, 0, 0}, {0, 0, 0, 1, 0, 0, 0},
            {0, 0, 0, 0, 1, 1, 0}, {0, 0, 0, 0, 0, 1, 0}, {0, 0, 0, 0, 0, 0, 1}};
        for (int block = 0; block < counts.length; block++) {
            TreeDesk x = Trees.branches();
            Check.due("spoil(" + block + ")", x.spoil(block), counts[block]);
            for (int i = 0; i < counts.length; i++) {
                Check.due("spoil(" + block + "): look(" + i + ", 4)", x.look(i, 4), bad[block][i]);
            }
            Check.due("spoil(" + block + "): size()", x.size(), 7);
        }
        TreeDesk twice = Trees.branches();
        Check.due("a leaf: spoil(5)", twice.spoil(5), 1);
        Check.due("its parent, it being bad: spoil(4)", twice.spoil(4), 1);
        Check.due("all behind, two being bad: spoil(1)", twice.spoil(1), 3);
        Check.due("the root's other child: spoil(6)", twice.spoil(6), 1);
        TreeDesk great = Trees.slowChain(299);
        Check.due("a long branch: spoil(299)", great.spoil(299), 1);
        Check.due("a long branch: spoil(1)", great.spoil(1), 298);
        Check.due("a long branch: tip()", great.tip(), 0);
    }

    public static void main(String[] args) {
        rootsTime();
        roomAsAsked();
        roomOfHundred();
        numbers();
        noParent();
        badParent();
        otherBits();
        bitsOfPeriods();
        bitsOfTheSameTarget();
        timeAboveMedian();
        timeAsSaid();
        noRoom();
        spoilOfNone();
        spoilOfTheRoot();
        spoilOfBad();
        spoilOfAllBehind();
        Check.end();
    }
}
