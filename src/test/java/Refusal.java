import java.util.function.Supplier;
import java.util.function.ToLongFunction;

/**
 * A refused call: its answer, and that it changed nothing. The desk on which it is tried is held against a second
 * one of the same making that is spared the call. Each desk keeps to its 512 calls.
 */
final class Refusal {
    private static final int FIRST = 3;
    private static final int LAST = 5;
    private static final int MORE = 3;

    private final String told;
    private final TreeDesk tried;
    private final TreeDesk spared;

    private Refusal(String told, TreeDesk tried, TreeDesk spared) {
        this.told = told;
        this.tried = tried;
        this.spared = spared;
    }

    static void due(String call, Supplier<TreeDesk> made, ToLongFunction<TreeDesk> refused, long want) {
        TreeDesk tried = made.get();
        TreeDesk spared = made.get();
        Check.due(call, refused.applyAsLong(tried), want);
        Refusal refusal = new Refusal("after the refused " + call + ": ", tried, spared);
        refusal.blocksAreAlike();
        refusal.bothGoOnAlike();
    }

    private void alike(String call, ToLongFunction<TreeDesk> asked) {
        Check.due(told + call, asked.applyAsLong(tried), asked.applyAsLong(spared));
    }

    /** All blocks of a small tree; of a great one the first and the last. */
    private void blocksAreAlike() {
        alike("size()", x -> x.size());
        alike("tip()", x -> x.tip());
        int size = spared.size();
        for (int i = 0; i < size; i++) {
            if (i < FIRST || i >= size - LAST) {
                blockIsAlike(i);
            }
        }
    }

    private void blockIsAlike(int block) {
        for (int k = 0; k < 6; k++) {
            int what = k;
            alike("look(" + block + ", " + what + ")", x -> x.look(block, what));
        }
        for (int k = 0; k < 4; k++) {
            int part = k;
            alike("work(" + block + ", " + part + ")", x -> x.work(block, part));
        }
        alike("must(" + block + ")", x -> x.must(block));
        alike("median(" + block + ")", x -> x.median(block));
        alike("compare(" + block + ", 1)", x -> x.compare(block, 1));
        alike("below(" + block + ", 1)", x -> x.below(block, 1));
        alike("fork(" + block + ", 2)", x -> x.fork(block, 2));
        alike("row(" + block + ", 1)", x -> x.row(block, 1));
    }

    /** What is hidden shows later: in the numbers, the room, the works and the tips of what comes then. */
    private void bothGoOnAlike() {
        for (int i = 0; i < MORE; i++) {
            int parent = spared.tip();
            long time = spared.median(parent) + 1;
            long bits = spared.must(parent);
            alike("a block more", x -> x.add(parent, time, bits));
            alike("its work", x -> x.work(x.size() - 1, 3));
            alike("tip() with it", x -> x.tip());
        }
        alike("spoil of the tip", x -> x.spoil(x.tip()));
        alike("tip() without it", x -> x.tip());
    }
}
