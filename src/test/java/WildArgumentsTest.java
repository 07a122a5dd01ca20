import java.util.function.Supplier;

/**
 * No call throws, for any arguments in any state: every call with every wild argument, in trees of many kinds and far
 * beyond an object's 512th call. What is answered so late is free, so only the calls' ends are looked at.
 */
public final class WildArgumentsTest {
    private static final int[] INTS = {
        Integer.MIN_VALUE, Integer.MIN_VALUE + 1, -300, -9, -2, -1, 0, 1, 2, 3, 4, 5, 6, 7, 8, 9, 10, 11, 31, 32, 63, 64,
        99, 100, 101, 255, 256, 298, 299, 300, 301, 1 << 24, 1 << 29, 1 << 30, Integer.MAX_VALUE - 1, Integer.MAX_VALUE};
    private static final long[] LONGS = {
        Long.MIN_VALUE, Long.MIN_VALUE + 1, -1L << 32, -1, 0, 1, 255, 0x7FFFFF, 0x800000, 0x800001, 0x1000000, 0x3000001,
        0x1D00FFFFL, 0x201FFFFFL, 0x207FFFFFL, 0x20800000L, 0x2100FFFFL, 0x2200FFFFL, 0x220100FFL, 0xFF7FFFFFL,
        0xFFFFFFFFL, 1L << 32, Long.MAX_VALUE - 1, Long.MAX_VALUE};

    private final String told;
    private final TreeDesk desk;

    private WildArgumentsTest(String told, TreeDesk desk) {
        this.told = told;
        this.desk = desk;
    }

    private void askAll() {
        for (int a : INTS) {
            desk.must(a);
            desk.median(a);
            for (int b : INTS) {
                desk.look(a, b);
                desk.work(a, b);
                desk.compare(a, b);
                desk.below(a, b);
                desk.fork(a, b);
                desk.row(a, b);
            }
        }
        desk.tip();
        desk.size();
    }

    private void readAll() {
        for (long a : LONGS) {
            desk.fault(a);
            for (int k : INTS) {
                desk.target(a, k);
            }
            for (long b : LONGS) {
                desk.compact(a, b, a, b);
                desk.compact(0, a, 0, b);
                desk.compact(0, 0, a, b);
            }
        }
    }

    /** Also with the bits that the parent asks for, so that the times are looked at. */
    private void addAll() {
        for (int parent : INTS) {
            for (long time : LONGS) {
                for (long bits : LONGS) {
                    desk.add(parent, time, bits);
                }
                desk.add(parent, time, desk.must(parent));
            }
        }
    }

    private void spoilAll() {
        for (int i = INTS.length - 1; i >= 0; i--) {
            desk.spoil(INTS[i]);
        }
    }

    private void run() {
        askAll();
        readAll();
        addAll();
        askAll();
        spoilAll();
        askAll();
        addAll();
        Check.due(told + ": the root is not bad", desk.look(0, 4), 0);
        Check.due(told + ": 1 .. 300 blocks", desk.size() >= 1 && desk.size() <= 300 ? 1 : 0, 1);
    }

    /** A second period whose last time is far below its first. */
    private static TreeDesk backwards() {
        TreeDesk x = Trees.period(10007);
        Trees.secondPeriod(x, Trees.HARD, 4000000000L, 20010);
        return x;
    }

    private static void wild(String told, Supplier<TreeDesk> made) {
        new WildArgumentsTest(told, made.get()).run();
    }

    public static void main(String[] args) {
        for (int blocks : INTS) {
            for (int time : new int[] {Integer.MIN_VALUE, -1, 0, Integer.MAX_VALUE}) {
                wild("new TreeDesk(" + blocks + ", " + time + ")", () -> new TreeDesk(blocks, time));
            }
        }
        wild("a full chain of the hardest bits", Trees::deep);
        wild("a full chain of the limit's bits", () -> Trees.slowChain(299));
        wild("a full star", () -> Trees.star(300, 300));
        wild("a period", () -> Trees.period(10007));
        wild("a time that goes back", WildArgumentsTest::backwards);
        wild("a hard top", Trees::hardTop);
        wild("branches", Trees::branches);
        wild("half of it bad", () -> Trees.halfBad(300));
        wild("half of it bad, and full", () -> Trees.halfBad(5));
        Check.end();
    }
}
