/** Each sentence on bits, targets and compact bits that names a boundary, on both sides of it. */
public final class BitsEdgesTest {
    private static final long MOST = Trees.MOST;
    private static final long LIMIT = Trees.EASY;
    private static final int LEAST_INT = Integer.MIN_VALUE;
    private static final int MOST_INT = Integer.MAX_VALUE;

    private static void fault(long bits, int due) {
        Check.due("fault(" + Long.toHexString(bits) + ")", new TreeDesk(2, 0).fault(bits), due);
    }

    private static void refusedFault(long bits) {
        Refusal.due("fault(" + Long.toHexString(bits) + ")", Trees::branches, x -> x.fault(bits), -1);
    }

    private static void target(long bits, long... due) {
        TreeDesk x = new TreeDesk(2, 0);
        for (int k = 0; k < 4; k++) {
            Check.due("target(" + Long.toHexString(bits) + ", " + k + ")", x.target(bits, k), due[k]);
        }
    }

    /** No long of the target is told, and nothing changed by asking. */
    private static void noTarget(long bits) {
        for (int k = 0; k < 4; k++) {
            refusedTarget(bits, k);
        }
    }

    private static void refusedTarget(long bits, int k) {
        Refusal.due("target(" + Long.toHexString(bits) + ", " + k + ")", Trees::branches, x -> x.target(bits, k), 0);
    }

    private static void compact(long a, long b, long c, long d, long due) {
        String told = "compact(" + Long.toHexString(a) + ", " + Long.toHexString(b) + ", " + Long.toHexString(c) + ", "
                + Long.toHexString(d) + ")";
        Check.due(told, new TreeDesk(2, 0).compact(a, b, c, d), due);
    }

    /** The number whose bytes are given, the highest first, with so many bytes of the same filling behind them. */
    private static void compactOfBytes(int filling, int behind, long due, int... bytes) {
        long[] parts = new long[4];
        for (int place = 0; place < behind + bytes.length; place++) {
            long value = place < behind ? filling : bytes[bytes.length - 1 - (place - behind)];
            parts[3 - place / 8] |= value << place % 8 * 8;
        }
        compact(parts[0], parts[1], parts[2], parts[3], due);
    }

    private static void bitsAreThirtyTwo() {
        Check.sentence("BITS are 32 bits, told as a long 0 .. 2 ^ 32 - 1; fault: -1 if they are not as said");
        refusedFault(-1);
        fault(0, 2);
        fault(1, 2);
        fault(MOST - 1, 1);
        fault(MOST, 1);
        refusedFault(MOST + 1);
        refusedFault(LIMIT + MOST + 1);
        refusedFault(LIMIT | Long.MIN_VALUE);
        refusedFault(Long.MIN_VALUE);
        refusedFault(Long.MAX_VALUE);
        fault(0x7F000001L, 3);
        fault(0x80000001L, 3);
    }

    private static void partsOfBits() {
        Check.sentence("the highest eight are the SIZE s, the next one a SIGN, the other 23 a number m");
        target(0x037FFFFFL, 0, 0, 0, 0x7FFFFF);
        fault(0x03800000L, 2);
        fault(0x03FFFFFFL, 1);
        target(0x04000000L, 0, 0, 0, 0);
        target(0x04000001L, 0, 0, 0, 0x100);
        target(0x047FFFFFL, 0, 0, 0, 0x7FFFFF00L);
        fault(0xFF000001L, 3);
    }

    private static void roundedDown() {
        Check.sentence("the TARGET m * 256 ^ (s - 3), rounded down");
        target(0x03000001L, 0, 0, 0, 1);
        target(0x020000FFL, 0, 0, 0, 0);
        target(0x02000100L, 0, 0, 0, 1);
        target(0x020001FFL, 0, 0, 0, 1);
        target(0x02000200L, 0, 0, 0, 2);
        target(0x027FFFFFL, 0, 0, 0, 0x7FFF);
        target(0x0100FFFFL, 0, 0, 0, 0);
        target(0x01010000L, 0, 0, 0, 1);
        target(0x0101FFFFL, 0, 0, 0, 1);
        target(0x01020000L, 0, 0, 0, 2);
        target(0x017FFFFFL, 0, 0, 0, 0x7F);
        target(0x00000001L, 0, 0, 0, 0);
        target(0x007FFFFFL, 0, 0, 0, 0);
    }

    private static void longsOfNumbers() {
        Check.sentence("NUMBERS of 256 bits are told as four longs, each 64 bits of it, the highest first");
        target(0x08000080L, 0, 0, 0, 0x800000000000L);
        target(0x0A000080L, 0, 0, 0, Long.MIN_VALUE);
        target(0x0A000100L, 0, 0, 1, 0);
        target(0x0A7FFFFFL, 0, 0, 0x7FFF, 0xFF00000000000000L);
        target(0x0B7FFFFFL, 0, 0, 0x7FFFFF, 0);
        target(0x12000080L, 0, 0, Long.MIN_VALUE, 0);
        target(0x12000100L, 0, 1, 0, 0);
        target(0x127FFFFFL, 0, 0x7FFF, 0xFF00000000000000L, 0);
        target(0x137FFFFFL, 0, 0x7FFFFF, 0, 0);
        target(0x1A000080L, 0, Long.MIN_VALUE, 0, 0);
        target(0x1A000100L, 1, 0, 0, 0);
        target(0x1A7FFFFFL, 0x7FFF, 0xFF00000000000000L, 0, 0);
        target(0x1B7FFFFFL, 0x7FFFFF, 0, 0, 0);
        target(LIMIT, 0x7FFFFF0000000000L, 0, 0, 0);
        compact(1, 0, 0, 0, 0x19010000L);
        compact(0, 1, 0, 0, 0x11010000L);
        compact(0, 0, 1, 0, 0x09010000L);
        compact(0, 0, 0, 1, 0x01010000L);
        compact(0, 0, 0, -1, 0x0900FFFFL);
        compact(0, 0, -1, 0, 0x1100FFFFL);
        compact(0, -1, 0, 0, 0x1900FFFFL);
        compact(-1, 0, 0, 0, 0x2100FFFFL);
    }

    private static void firstFault() {
        Check.sentence("They are FAULTY, the first of these that is so");
        fault(0x00800001L, 1);
        fault(0x00000001L, 2);
        fault(0x21810000L, 1);
        fault(0x21010000L, 3);
        fault(0x21808000L, 1);
        fault(0x21008000L, 4);
        fault(0xFFFFFFFFL, 1);
        fault(0xFF7FFFFFL, 3);
        fault(0xFF800000L, 2);
        fault(0xFF000000L, 2);
    }

    private static void signFault() {
        Check.sentence("1 the sign is 1, and m is not 0");
        fault(0x037FFFFFL, 0);
        fault(0x03800000L, 2);
        fault(0x03800001L, 1);
        fault(0x03FFFFFFL, 1);
        fault(0x04000000L, 2);
        fault(0x20FFFFFFL, 1);
    }

    private static void zeroFault() {
        Check.sentence("2 the target is 0");
        fault(0x03000000L, 2);
        fault(0x03000001L, 0);
        fault(0x020000FFL, 2);
        fault(0x02000100L, 0);
        fault(0x0100FFFFL, 2);
        fault(0x01010000L, 0);
        fault(0x007FFFFFL, 2);
        fault(0x017FFFFFL, 0);
        fault(0x20000000L, 2);
        fault(0x20000001L, 0);
        fault(0x23000000L, 2);
        fault(0x23000001L, 3);
    }

    private static void wideFault() {
        Check.sentence("3 it is 2 ^ 256 or more");
        fault(0x2100FFFFL, 4);
        fault(0x21010000L, 3);
        fault(0x217FFFFFL, 3);
        fault(0x220000FFL, 4);
        fault(0x22000100L, 3);
        fault(0x227FFFFFL, 3);
        fault(0x23000000L, 2);
        fault(0x23000001L, 3);
        fault(0x24000001L, 3);
        fault(0x2B000001L, 3);
        fault(0x43000001L, 3);
        fault(0xFF000001L, 3);
    }

    private static void limitFault() {
        Check.sentence("4 it is above the LIMIT, which is that of 20 7F FF FF");
        fault(0x207FFFFEL, 0);
        fault(LIMIT, 0);
        fault(0x21007FFFL, 0);
        fault(0x21008000L, 4);
        fault(0x2200007FL, 0);
        fault(0x22000080L, 4);
        fault(0x2100FFFFL, 4);
        fault(0x1F7FFFFFL, 0);
    }

    private static void toldTargets() {
        Check.sentence("target: of bits that have no fault, or 4; else 0");
        target(LIMIT, 0x7FFFFF0000000000L, 0, 0, 0);
        target(0x21007FFFL, 0x7FFF000000000000L, 0, 0, 0);
        target(0x21008000L, 0x8000000000000000L, 0, 0, 0);
        target(0x2100FFFFL, 0xFFFF000000000000L, 0, 0, 0);
        noTarget(0x21010000L);
        noTarget(0x23000001L);
        target(0x2200007FL, 0x7F00000000000000L, 0, 0, 0);
        target(0x22000080L, 0x8000000000000000L, 0, 0, 0);
        target(0x220000FFL, 0xFF00000000000000L, 0, 0, 0);
        noTarget(0x22000100L);
        noTarget(0x03800001L);
        noTarget(0x03FFFFFFL);
        noTarget(0x20FFFFFFL);
        noTarget(0x21808000L);
        noTarget(0x020000FFL);
        noTarget(0x20800000L);
        noTarget(0);
        noTarget(-1);
        noTarget(MOST + 1);
        noTarget(LIMIT + MOST + 1);
        noTarget(LIMIT | Long.MIN_VALUE);
        noTarget(Long.MIN_VALUE);
        noTarget(Long.MAX_VALUE);
    }

    private static void longsOfTargets() {
        Check.sentence("target: Long k of the target");
        // Of the last two, what was rounded away would be a fifth long.
        for (long bits : new long[] {LIMIT, 0x2100FFFFL, 0x0A7FFFFFL, 0x037FFFFFL, 0x027FFFFFL, 0x017FFFFFL}) {
            for (int k : new int[] {LEAST_INT, -4, -1, 4, 5, 7, 64, MOST_INT}) {
                refusedTarget(bits, k);
            }
        }
        Check.due("target(k 0)", new TreeDesk(2, 0).target(0x2100FFFFL, 0), 0xFFFF000000000000L);
        Check.due("target(k 3)", new TreeDesk(2, 0).target(0x037FFFFFL, 3), 0x7FFFFF);
    }

    private static void compactOfNothing() {
        Check.sentence("COMPACT BITS: s is how many bytes it has (0 of 0)");
        compact(0, 0, 0, 0, 0);
        compact(0, 0, 0, 1, 0x01010000L);
        for (int bytes = 1; bytes <= 32; bytes++) {
            long size = bytes;
            compactOfBytes(0, bytes - 1, size << 24 | 0x010000, 0x01);
            compactOfBytes(0xFF, bytes - 1, size << 24 | (bytes == 1 ? 0x7F0000 : bytes == 2 ? 0x7FFF00 : 0x7FFFFF), 0x7F);
            compactOfBytes(0xFF, bytes - 1, size + 1 << 24 | (bytes == 1 ? 0xFF00 : 0xFFFF), 0xFF);
        }
    }

    private static void compactOfFewBytes() {
        Check.sentence("COMPACT BITS: m its three highest bytes (with bytes 0 behind, if it has fewer)");
        compact(0, 0, 0, 0x12, 0x01120000L);
        compact(0, 0, 0, 0x1234, 0x02123400L);
        compact(0, 0, 0, 0x123456, 0x03123456L);
        compact(0, 0, 0, 0x12345678L, 0x04123456L);
        compact(0, 0, 0, 0x123456FFL, 0x04123456L);
        compact(0, 0, 0, 0x12345700L, 0x04123457L);
        for (int bytes = 3; bytes <= 32; bytes++) {
            compactOfBytes(0, bytes - 3, (long) bytes << 24 | 0x123456, 0x12, 0x34, 0x56);
            compactOfBytes(0xFF, bytes - 3, (long) bytes << 24 | 0x123456, 0x12, 0x34, 0x56);
        }
    }

    private static void compactOfHighBit() {
        Check.sentence("COMPACT BITS: if the highest bit of these three bytes is 1, m is its two highest bytes, s one more");
        compact(0, 0, 0, 0x7F, 0x017F0000L);
        compact(0, 0, 0, 0x80, 0x02008000L);
        compact(0, 0, 0, 0x7FFF, 0x027FFF00L);
        compact(0, 0, 0, 0x8000, 0x03008000L);
        compact(0, 0, 0, 0x80FF, 0x030080FFL);
        compact(0, 0, 0, 0x7FFFFF, 0x037FFFFFL);
        compact(0, 0, 0, 0x800000, 0x04008000L);
        for (int bytes = 3; bytes <= 32; bytes++) {
            long size = bytes;
            compactOfBytes(0, bytes - 3, size << 24 | 0x7FFFFF, 0x7F, 0xFF, 0xFF);
            compactOfBytes(0xFF, bytes - 3, size << 24 | 0x7FFFFF, 0x7F, 0xFF, 0xFF);
            compactOfBytes(0, bytes - 3, size + 1 << 24 | 0x008000, 0x80, 0x00, 0x00);
            compactOfBytes(0xFF, bytes - 3, size + 1 << 24 | 0x0080FE, 0x80, 0xFE, 0xFF);
            // The highest bits of the second and the third byte do not count.
            compactOfBytes(0, bytes - 3, size << 24 | 0x018080, 0x01, 0x80, 0x80);
        }
    }

    public static void main(String[] args) {
        bitsAreThirtyTwo();
        partsOfBits();
        roundedDown();
        longsOfNumbers();
        firstFault();
        signFault();
        zeroFault();
        wideFault();
        limitFault();
        toldTargets();
        longsOfTargets();
        compactOfNothing();
        compactOfFewBytes();
        compactOfHighBit();
        Check.end();
    }
}
