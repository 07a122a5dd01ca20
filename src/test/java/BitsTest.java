import java.util.Random;

/** Promises 14, 15 and 16 over all sizes and every edge of the numbers, held against the model. */
public final class BitsTest {
    private static final long[] NUMBERS = {
        0, 1, 2, 0x7F, 0x80, 0x81, 0xFF, 0x100, 0x101, 0x7FFF, 0x8000, 0x8001, 0xFFFF, 0x10000, 0x10001,
        0x123456, 0x3FFFFF, 0x400000, 0x7FFF00, 0x7FFFFE, 0x7FFFFF};
    private static final long[] WRONG_BITS = {-1, -2, 1L << 32, (1L << 32) + 0x207FFFFFL, Long.MIN_VALUE, Long.MAX_VALUE};
    private static final int[] PLACES = {-1, 0, 1, 2, 3, 4, 5, 64, Integer.MIN_VALUE, Integer.MAX_VALUE};

    private static void bits(long bits) {
        TreeDesk x = new TreeDesk(2, 0);
        String told = Long.toHexString(bits);
        Check.due("fault(" + told + ")", x.fault(bits), Model.fault(bits));
        for (int k : PLACES) {
            Check.due("target(" + told + ", " + k + ")", x.target(bits, k), Model.target(bits, k));
        }
    }

    private static void compact(long a, long b, long c, long d) {
        String told = "compact(" + a + ", " + b + ", " + c + ", " + d + ")";
        Check.due(told, new TreeDesk(2, 0).compact(a, b, c, d), Model.compact(a, b, c, d));
    }

    /** Some number with its lowest bytes at a place 0 .. 31, all else 0. */
    private static void compactAt(long number, int place) {
        long[] parts = new long[5];
        int bit = place % 8 * 8;
        parts[4 - place / 8] = number << bit;
        parts[3 - place / 8] = bit == 0 ? 0 : number >>> 64 - bit;
        compact(parts[1], parts[2], parts[3], parts[4]);
    }

    public static void main(String[] args) {
        for (long size = 0; size < 256; size++) {
            for (long number : NUMBERS) {
                bits(size << 24 | number);
                bits(size << 24 | 0x800000 | number);
            }
        }
        for (long bits : WRONG_BITS) {
            bits(bits);
        }
        long[] tops = {0, 1, 0x7F, 0x80, 0xFF, 0x7FFF, 0x8000, 0xFFFF, 0x7FFFFF, 0x800000, 0xFFFFFF, 0x7FFFFFFFL, 0x80FFFFFFL};
        for (int place = 0; place < 32; place++) {
            for (long top : tops) {
                compactAt(top, place);
            }
        }
        Random random = new Random(16);
        for (int i = 0; i < 20000; i++) {
            bits(random.nextInt() & Model.MOST);
            int gone = random.nextInt(256);
            long[] parts = new long[4];
            for (int k = gone / 64; k < 4; k++) {
                parts[k] = random.nextLong();
            }
            parts[gone / 64] >>>= gone % 64;
            compact(parts[0], parts[1], parts[2], parts[3]);
        }
        Check.end();
    }
}
