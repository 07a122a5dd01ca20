import java.util.Arrays;

/** A tree of blocks by times and compact targets; ../shared/DOC.md tells its promises. */
public final class TreeDesk {
    private static final int LEAST_ROOM = 2;
    private static final int MOST_ROOM = 300;
    private static final int USUAL_ROOM = 100;
    private static final int PERIOD = 8;
    private static final int MEDIAN_BLOCKS = 11;
    private static final int SINGLE_STEPS = 9;
    private static final int NONE = -1;

    private final int room;
    private int count;
    private int best;
    private final int[] parents;
    private final int[] heights;
    private final int[] children;
    private final long[] times;
    private final long[] bitsOf;
    private final boolean[] bad;
    /** Eight halves a block, the highest first. */
    private final long[] works;
    private final long[] ranked;
    private final Retarget retarget;
    private final Worth worth;

    public TreeDesk(int blocks, int time) {
        room = blocks >= LEAST_ROOM && blocks <= MOST_ROOM ? blocks : USUAL_ROOM;
        parents = new int[room];
        heights = new int[room];
        children = new int[room];
        times = new long[room];
        bitsOf = new long[room];
        bad = new boolean[room];
        works = new long[room * Bits.HALVES];
        ranked = new long[MEDIAN_BLOCKS];
        retarget = new Retarget();
        worth = new Worth();

        parents[0] = NONE;
        times[0] = time & Bits.MOST;
        bitsOf[0] = Bits.LIMIT;
        System.arraycopy(worth.ofBits(Bits.LIMIT), 0, works, 0, Bits.HALVES);
        count = 1;
        best = 0;
    }

    public int add(int parent, long time, long bits) {
        if (!isBlock(parent)) {
            return -1;
        }
        if (bad[parent]) {
            return -2;
        }
        if (bits != must(parent)) {
            return -3;
        }
        if (time <= median(parent) || time > Bits.MOST) {
            return -4;
        }
        if (count >= room) {
            return -5;
        }
        return append(parent, time, bits);
    }

    public int spoil(int block) {
        if (!isBlock(block) || block == 0 || bad[block]) {
            return 0;
        }
        bad[block] = true;
        int spoiled = 1 + spoilBehind(block);
        if (bad[best]) {
            best = findBest();
        }
        return spoiled;
    }

    public long must(int block) {
        if (!isBlock(block)) {
            return -1;
        }
        int height = heights[block];
        if ((height + 1) % PERIOD != 0) {
            return bitsOf[block];
        }
        int first = ancestor(block, height - (PERIOD - 1));
        return retarget.next(bitsOf[block], times[block] - times[first]);
    }

    public long median(int block) {
        if (!isBlock(block)) {
            return -1;
        }
        int n = 0;
        for (int at = block; n < MEDIAN_BLOCKS && at >= 0; at = parents[at]) {
            rank(times[at], n);
            n++;
        }
        return ranked[n / 2];
    }

    public long look(int block, int what) {
        if (!isBlock(block)) {
            return -1;
        }
        switch (what) {
            case 0:
                return parents[block];
            case 1:
                return heights[block];
            case 2:
                return times[block];
            case 3:
                return bitsOf[block];
            case 4:
                return bad[block] ? 1 : 0;
            case 5:
                return children[block];
            default:
                return -1;
        }
    }

    public long work(int block, int k) {
        if (!isBlock(block) || k < 0 || k >= Bits.PARTS) {
            return 0;
        }
        int at = block * Bits.HALVES + 2 * k;
        return Bits.join(works[at], works[at + 1]);
    }

    public int compare(int a, int b) {
        if (!isBlock(a) || !isBlock(b)) {
            return -2;
        }
        return compareWorks(a, b);
    }

    public int tip() {
        return best;
    }

    public int size() {
        return count;
    }

    public int below(int block, int height) {
        if (!isBlock(block) || height < 0 || height > heights[block]) {
            return NONE;
        }
        return ancestor(block, height);
    }

    public int fork(int a, int b) {
        if (!isBlock(a) || !isBlock(b)) {
            return NONE;
        }
        int left = a;
        int right = b;
        // A parent's number is below its child's: the greater one of two is never on the other's branch.
        for (int steps = 2 * count; steps > 0 && left != right; steps--) {
            if (left > right) {
                left = parents[left];
            } else {
                right = parents[right];
            }
        }
        return left;
    }

    public int row(int block, int k) {
        if (!isBlock(block) || k < 0 || k > heights[block]) {
            return NONE;
        }
        int height = heights[block];
        int step = 1;
        for (int number = 1; number <= k; number++) {
            if (height == 0) {
                return NONE;
            }
            if (number > SINGLE_STEPS) {
                step *= 2;
            }
            height = Math.max(0, height - step);
        }
        return ancestor(block, height);
    }

    public int fault(long bits) {
        return Bits.faultOf(bits);
    }

    public long target(long bits, int k) {
        int found = Bits.faultOf(bits);
        boolean told = found == Bits.SOUND || found == Bits.ABOVE_LIMIT;
        return told && k >= 0 && k < Bits.PARTS ? Bits.targetPart(bits, k) : 0;
    }

    public long compact(long a, long b, long c, long d) {
        return Bits.shorten(a, b, c, d);
    }

    private boolean isBlock(int block) {
        return block >= 0 && block < count;
    }

    private int append(int parent, long time, long bits) {
        int block = count;
        parents[block] = parent;
        heights[block] = heights[parent] + 1;
        times[block] = time;
        bitsOf[block] = bits;
        children[parent]++;
        sumWork(block, parent, worth.ofBits(bits));
        count++;
        if (compareWorks(block, best) > 0) {
            best = block;
        }
        return block;
    }

    private void sumWork(int block, int parent, long[] own) {
        long carry = 0;
        for (int i = Bits.HALVES - 1; i >= 0; i--) {
            long sum = works[parent * Bits.HALVES + i] + own[i] + carry;
            works[block * Bits.HALVES + i] = sum & Bits.MOST;
            carry = sum >>> Bits.HALF_WIDTH;
        }
    }

    private int compareWorks(int a, int b) {
        for (int i = 0; i < Bits.HALVES; i++) {
            long left = works[a * Bits.HALVES + i];
            long right = works[b * Bits.HALVES + i];
            if (left != right) {
                return left < right ? -1 : 1;
            }
        }
        return 0;
    }

    private int spoilBehind(int block) {
        int spoiled = 0;
        // Parents come before their children, so one way through finds all of them.
        for (int i = block + 1; i < count; i++) {
            if (!bad[i] && bad[parents[i]]) {
                bad[i] = true;
                spoiled++;
            }
        }
        return spoiled;
    }

    private int findBest() {
        int found = 0;
        for (int i = 1; i < count; i++) {
            if (!bad[i] && compareWorks(i, found) > 0) {
                found = i;
            }
        }
        return found;
    }

    /** The height is one of 0 .. the block's own. */
    private int ancestor(int block, int height) {
        int at = block;
        for (int steps = heights[block] - height; steps > 0 && at > 0; steps--) {
            at = parents[at];
        }
        return at;
    }

    /** Puts a time among the n that are ranked, n being less than the row's length. */
    private void rank(long time, int n) {
        int at = n;
        while (at > 0 && ranked[at - 1] > time) {
            ranked[at] = ranked[at - 1];
            at--;
        }
        ranked[at] = time;
    }

    /** Bits, and numbers of 256 bits: as four longs, or as eight halves of 32 bits, the highest first. */
    private static final class Bits {
        static final long MOST = 0xFFFFFFFFL;
        static final long LIMIT = 0x207FFFFFL;
        static final long LIMIT_TOP = 0x7FFFFF0000000000L;
        static final int PARTS = 4;
        static final int HALVES = 8;
        static final int HALF_WIDTH = 32;
        static final int SOUND = 0;
        static final int NEGATIVE = 1;
        static final int ZERO = 2;
        static final int TOO_WIDE = 3;
        static final int ABOVE_LIMIT = 4;
        static final int NO_BITS = -1;

        private static final int PART_WIDTH = 64;
        private static final int WIDTH = 256;
        private static final int BYTES = 32;
        private static final long SIGN = 0x800000L;
        private static final long NUMBER = 0x7FFFFFL;

        private Bits() {
        }

        static int faultOf(long bits) {
            if (bits < 0 || bits > MOST) {
                return NO_BITS;
            }
            long number = bits & NUMBER;
            if ((bits & SIGN) != 0 && number != 0) {
                return NEGATIVE;
            }
            int shift = shiftOf(bits);
            if (number == 0 || shift < 0 && number >>> -shift == 0) {
                return ZERO;
            }
            if (shift + lengthOf(number) > WIDTH) {
                return TOO_WIDE;
            }
            // The limit's 23 bits of 1 fill its top: what has the same top part is the limit itself.
            long top = targetPart(bits, 0);
            return top < 0 || top > LIMIT_TOP ? ABOVE_LIMIT : SOUND;
        }

        static long targetPart(long bits, int k) {
            long number = bits & NUMBER;
            int shift = shiftOf(bits) - PART_WIDTH * (PARTS - 1 - k);
            // Java takes a shift's width modulo 64, so wider ones are answered here.
            if (shift >= PART_WIDTH || shift <= -PART_WIDTH) {
                return 0;
            }
            return shift >= 0 ? number << shift : number >>> -shift;
        }

        static long targetHalf(long bits, int i) {
            long part = targetPart(bits, i / 2);
            return i % 2 == 0 ? part >>> HALF_WIDTH : part & MOST;
        }

        static long join(long high, long low) {
            return high << HALF_WIDTH | low;
        }

        static int lengthOf(long number) {
            return PART_WIDTH - Long.numberOfLeadingZeros(number);
        }

        static long shorten(long a, long b, long c, long d) {
            int size = BYTES;
            while (size > 0 && byteAt(a, b, c, d, size - 1) == 0) {
                size--;
            }
            long number = 0;
            for (int i = 1; i <= 3; i++) {
                number = number << 8 | byteAt(a, b, c, d, size - i);
            }
            if ((number & SIGN) != 0) {
                number >>>= 8;
                size++;
            }
            return (long) size << 24 | number;
        }

        /** How far to the left the number of bits stands in their target. */
        private static int shiftOf(long bits) {
            return 8 * ((int) (bits >>> 24) - 3);
        }

        /** Places count from the lowest byte on; below it are bytes 0. */
        private static long byteAt(long a, long b, long c, long d, int place) {
            if (place < 0) {
                return 0;
            }
            long part = place < 8 ? d : place < 16 ? c : place < 24 ? b : a;
            return part >>> 8 * (place % 8) & 255;
        }
    }

    /** The bits that come after a period. */
    private static final class Retarget {
        private static final long LEAST_SPAN = 1200;
        private static final long MOST_SPAN = 19200;
        private static final long DUE_SPAN = 4800;

        /** One half more than a number has: a target times a span is wider than 256 bits. */
        private final long[] product = new long[Bits.HALVES + 1];

        long next(long bits, long span) {
            multiply(bits, Math.max(LEAST_SPAN, Math.min(MOST_SPAN, span)));
            divide();
            long a = Bits.join(product[1], product[2]);
            if (product[0] != 0 || a < 0 || a >= Bits.LIMIT_TOP) {
                return Bits.LIMIT;
            }
            long b = Bits.join(product[3], product[4]);
            long c = Bits.join(product[5], product[6]);
            long d = Bits.join(product[7], product[8]);
            return Bits.shorten(a, b, c, d);
        }

        private void multiply(long bits, long factor) {
            long carry = 0;
            for (int i = Bits.HALVES - 1; i >= 0; i--) {
                long value = Bits.targetHalf(bits, i) * factor + carry;
                product[i + 1] = value & Bits.MOST;
                carry = value >>> Bits.HALF_WIDTH;
            }
            product[0] = carry;
        }

        private void divide() {
            long rest = 0;
            for (int i = 0; i <= Bits.HALVES; i++) {
                long value = Bits.join(rest, product[i]);
                product[i] = value / DUE_SPAN;
                rest = value % DUE_SPAN;
            }
        }
    }

    /** What a block adds to the work of its branch: 2 ^ 256 / (target + 1). */
    private static final class Worth {
        private static final int WIDTH = 256;

        private final long[] divisor = new long[Bits.HALVES];
        private final long[] rest = new long[Bits.HALVES];
        private final long[] quotient = new long[Bits.HALVES];
        /** A branch has the same bits for a whole period: the last answer is kept. */
        private long known = -1;

        /** The bits have no fault; the row is this object's own, and good until the next call. */
        long[] ofBits(long bits) {
            if (bits != known) {
                setDivisor(bits);
                divide();
                known = bits;
            }
            return quotient;
        }

        private void setDivisor(long bits) {
            long carry = 1;
            for (int i = Bits.HALVES - 1; i >= 0; i--) {
                long value = Bits.targetHalf(bits, i) + carry;
                divisor[i] = value & Bits.MOST;
                carry = value >>> Bits.HALF_WIDTH;
            }
        }

        private void divide() {
            Arrays.fill(rest, 0);
            Arrays.fill(quotient, 0);
            // This power of 2 is below the divisor, so the quotient's bits up to it are 0.
            int power = Math.max(0, divisorLength() - 2);
            rest[Bits.HALVES - 1 - power / Bits.HALF_WIDTH] = 1L << power % Bits.HALF_WIDTH;
            for (int i = power; i < WIDTH; i++) {
                twice(rest, 0);
                boolean fits = restHoldsDivisor();
                if (fits) {
                    subtractDivisor();
                }
                twice(quotient, fits ? 1 : 0);
            }
        }

        private int divisorLength() {
            for (int i = 0; i < Bits.HALVES; i++) {
                if (divisor[i] != 0) {
                    return Bits.HALF_WIDTH * (Bits.HALVES - 1 - i) + Bits.lengthOf(divisor[i]);
                }
            }
            return 0;
        }

        private static void twice(long[] halves, long lowest) {
            long carry = lowest;
            for (int i = Bits.HALVES - 1; i >= 0; i--) {
                long value = halves[i] << 1 | carry;
                halves[i] = value & Bits.MOST;
                carry = value >>> Bits.HALF_WIDTH;
            }
        }

        private boolean restHoldsDivisor() {
            for (int i = 0; i < Bits.HALVES; i++) {
                if (rest[i] != divisor[i]) {
                    return rest[i] > divisor[i];
                }
            }
            return true;
        }

        private void subtractDivisor() {
            long borrow = 0;
            for (int i = Bits.HALVES - 1; i >= 0; i--) {
                long value = rest[i] - divisor[i] - borrow;
                rest[i] = value & Bits.MOST;
                borrow = value < 0 ? 1 : 0;
            }
        }
    }
}
