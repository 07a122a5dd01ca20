import java.math.BigInteger;
import java.util.ArrayList;
import java.util.Collections;
import java.util.List;

/** The document's words once more, by BigInteger and lists, as plainly as can be: what a TreeDesk is held against. */
final class Model {
    static final long MOST = (1L << 32) - 1;
    static final long LIMIT_BITS = 0x207FFFFFL;
    static final BigInteger LIMIT = targetOf(LIMIT_BITS);
    private static final BigInteger TOO_MUCH = BigInteger.ONE.shiftLeft(256);

    private static final class Block {
        int number;
        Block parent;
        int height;
        long time;
        long bits;
        boolean spoiled;
        BigInteger work;

        boolean isBad() {
            return spoiled || parent != null && parent.isBad();
        }

        /** This block and all below it, the root last. */
        List<Block> branch() {
            List<Block> all = new ArrayList<>();
            for (Block at = this; at != null; at = at.parent) {
                all.add(at);
            }
            return all;
        }
    }

    private final int room;
    private final List<Block> blocks = new ArrayList<>();

    Model(int blocks, int time) {
        room = blocks >= 2 && blocks <= 300 ? blocks : 100;
        append(null, Integer.toUnsignedLong(time), LIMIT_BITS);
    }

    private void append(Block parent, long time, long bits) {
        Block block = new Block();
        block.number = blocks.size();
        block.parent = parent;
        block.height = parent == null ? 0 : parent.height + 1;
        block.time = time;
        block.bits = bits;
        BigInteger before = parent == null ? BigInteger.ZERO : parent.work;
        block.work = before.add(TOO_MUCH.divide(targetOf(bits).add(BigInteger.ONE)));
        blocks.add(block);
    }

    private Block find(int block) {
        return block < 0 || block >= blocks.size() ? null : blocks.get(block);
    }

    int add(int parent, long time, long bits) {
        Block found = find(parent);
        if (found == null) {
            return -1;
        }
        if (found.isBad()) {
            return -2;
        }
        if (must(parent) != bits) {
            return -3;
        }
        if (time < 0 || time > MOST || time <= median(parent)) {
            return -4;
        }
        if (blocks.size() == room) {
            return -5;
        }
        append(found, time, bits);
        return blocks.size() - 1;
    }

    private int countBad() {
        int n = 0;
        for (Block block : blocks) {
            n += block.isBad() ? 1 : 0;
        }
        return n;
    }

    int spoil(int block) {
        Block found = find(block);
        if (found == null || found.parent == null || found.isBad()) {
            return 0;
        }
        int before = countBad();
        found.spoiled = true;
        return countBad() - before;
    }

    long must(int block) {
        Block found = find(block);
        if (found == null) {
            return -1;
        }
        if ((found.height + 1) % 8 != 0) {
            return found.bits;
        }
        long t = found.time - found.branch().get(7).time;
        t = t < 1200 ? 1200 : t > 19200 ? 19200 : t;
        BigInteger next = targetOf(found.bits).multiply(BigInteger.valueOf(t)).divide(BigInteger.valueOf(4800));
        return compactOf(next.min(LIMIT));
    }

    long median(int block) {
        Block found = find(block);
        if (found == null) {
            return -1;
        }
        List<Long> times = new ArrayList<>();
        for (Block at : found.branch()) {
            if (times.size() < 11) {
                times.add(at.time);
            }
        }
        Collections.sort(times);
        return times.get(times.size() / 2);
    }

    long look(int block, int what) {
        Block found = find(block);
        if (found == null) {
            return -1;
        }
        switch (what) {
            case 0: return found.parent == null ? -1 : found.parent.number;
            case 1: return found.height;
            case 2: return found.time;
            case 3: return found.bits;
            case 4: return found.isBad() ? 1 : 0;
            case 5: return blocks.stream().filter(b -> b.parent == found).count();
            default: return -1;
        }
    }

    long work(int block, int k) {
        Block found = find(block);
        return found == null || k < 0 || k > 3 ? 0 : partOf(found.work, k);
    }

    int compare(int a, int b) {
        return find(a) == null || find(b) == null ? -2 : find(a).work.compareTo(find(b).work);
    }

    int tip() {
        Block best = null;
        for (Block block : blocks) {
            if (!block.isBad() && (best == null || block.work.compareTo(best.work) > 0)) {
                best = block;
            }
        }
        return best.number;
    }

    int size() {
        return blocks.size();
    }

    int below(int block, int height) {
        Block found = find(block);
        if (found != null) {
            for (Block at : found.branch()) {
                if (at.height == height) {
                    return at.number;
                }
            }
        }
        return -1;
    }

    int fork(int a, int b) {
        if (find(a) == null || find(b) == null) {
            return -1;
        }
        List<Block> other = find(b).branch();
        for (Block at : find(a).branch()) {
            if (other.contains(at)) {
                return at.number;
            }
        }
        throw new IllegalStateException("two branches without a root");
    }

    int row(int block, int k) {
        Block found = find(block);
        if (found == null || k < 0) {
            return -1;
        }
        List<Integer> row = new ArrayList<>();
        List<Block> branch = found.branch();
        int at = 0;
        row.add(block);
        int[] steps = {1, 1, 1, 1, 1, 1, 1, 1, 1, 2, 4, 8, 16, 32, 64, 128, 256, 512};
        for (int i = 0; at < branch.size() - 1; i++) {
            at = Math.min(branch.size() - 1, at + steps[i]);
            row.add(branch.get(at).number);
        }
        return k < row.size() ? row.get(k) : -1;
    }

    static int fault(long bits) {
        if (bits < 0 || bits > MOST) {
            return -1;
        }
        if ((bits >> 23 & 1) == 1 && (bits & 0x7FFFFF) != 0) {
            return 1;
        }
        BigInteger target = targetOf(bits);
        return target.signum() == 0 ? 2 : target.compareTo(TOO_MUCH) >= 0 ? 3 : target.compareTo(LIMIT) > 0 ? 4 : 0;
    }

    static long target(long bits, int k) {
        int fault = fault(bits);
        return (fault == 0 || fault == 4) && k >= 0 && k <= 3 ? partOf(targetOf(bits), k) : 0;
    }

    static long compact(long a, long b, long c, long d) {
        BigInteger number = BigInteger.ZERO;
        for (long part : new long[] {a, b, c, d}) {
            number = number.shiftLeft(64).or(new BigInteger(Long.toUnsignedString(part)));
        }
        return compactOf(number);
    }

    private static BigInteger targetOf(long bits) {
        BigInteger m = BigInteger.valueOf(bits % (1 << 23));
        int s = (int) (bits / (1 << 24));
        BigInteger base = BigInteger.valueOf(256);
        return s >= 3 ? m.multiply(base.pow(s - 3)) : m.divide(base.pow(3 - s));
    }

    private static long compactOf(BigInteger number) {
        int s = (number.bitLength() + 7) / 8;
        long m = number.shiftLeft(24).shiftRight(8 * s).longValueExact();
        return m >= 1 << 23 ? (s + 1L) * (1 << 24) + m / 256 : (long) s * (1 << 24) + m;
    }

    private static long partOf(BigInteger number, int k) {
        return number.shiftRight(64 * (3 - k)).longValue();
    }
}
