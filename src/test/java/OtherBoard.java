import java.math.BigInteger;

/** The BOARD once more, in another way: a memory of bytes, registers without signs, and great numbers. */
final class OtherBoard {
    private OtherBoard() {
    }

    static long load(byte[] bytes, int at, int size) {
        long number = 0;
        for (int k = size - 1; k >= 0; k--) {
            number = number << 8 | bytes[at + k] & 255;
        }
        return number;
    }

    static void store(byte[] bytes, int at, long number, int size) {
        for (int k = 0; k < size; k++) {
            bytes[at + k] = (byte) (number >> 8 * k);
        }
    }

    private static long bits(int word, int from, int to) {
        return (word & 0xffffffffL) >> from & (1L << to - from + 1) - 1;
    }

    private static long signed(long number, int bits) {
        return number << 64 - bits >> 64 - bits;
    }

    private static long low(long number) {
        return number & 0xffffffffL;
    }

    static int step(byte[] bytes, long[] r) {
        long pc = r[32];
        if (pc % 4 != 0 || pc >= 16384) {
            return 1;
        }
        int word = (int) load(bytes, (int) pc, 4);
        int d = (int) bits(word, 7, 11);
        int f = (int) bits(word, 12, 14);
        long a = r[(int) bits(word, 15, 19)];
        long b = r[(int) bits(word, 20, 24)];
        int g = (int) bits(word, 25, 31);
        long number = signed(bits(word, 20, 31), 12);
        long upper = bits(word, 12, 31) << 12;
        long next = low(pc + 4);
        Long result = null;
        switch ((int) bits(word, 0, 6)) {
            case 0x37:
                result = upper;
                break;
            case 0x17:
                result = pc + upper;
                break;
            case 0x6f:
                long jump = bits(word, 31, 31) << 20 | bits(word, 12, 19) << 12 | bits(word, 20, 20) << 11 | bits(word, 21, 30) << 1;
                result = next;
                next = low(pc + signed(jump, 21));
                break;
            case 0x67:
                if (f != 0) {
                    return 2;
                }
                result = next;
                next = low(a + number) / 2 * 2;
                break;
            case 0x63:
                long sa = signed(a, 32);
                long sb = signed(b, 32);
                boolean[] goes = {a == b, a != b, false, false, sa < sb, sa >= sb, a < b, a >= b};
                if (f == 2 || f == 3) {
                    return 2;
                }
                if (goes[f]) {
                    long branch = bits(word, 31, 31) << 12 | bits(word, 7, 7) << 11 | bits(word, 25, 30) << 5 | bits(word, 8, 11) << 1;
                    next = low(pc + signed(branch, 13));
                }
                break;
            case 0x03:
            case 0x23:
                boolean loads = bits(word, 0, 6) == 3;
                int[] sizes = {1, 2, 4, 0, 1, 2, 0, 0};
                int size = loads || f < 3 ? sizes[f] : 0;
                if (size == 0) {
                    return 2;
                }
                long address = low(a + (loads ? number : signed(bits(word, 25, 31) << 5 | d, 12)));
                if (address % size != 0) {
                    return 4;
                }
                if (address + size > 16384) {
                    return 5;
                }
                if (loads) {
                    long loaded = load(bytes, (int) address, size);
                    result = f < 3 ? signed(loaded, size * 8) : loaded;
                } else {
                    store(bytes, (int) address, b, size);
                }
                break;
            case 0x13:
                if (f == 1 && g != 0 || f == 5 && g != 0 && g != 32) {
                    return 2;
                }
                result = simple(f, f == 5 ? g : 0, a, low(number));
                break;
            case 0x33:
                if (g == 1) {
                    result = great(f, a, b);
                } else if (g == 0 || g == 32 && (f == 0 || f == 5)) {
                    result = simple(f, g, a, b);
                } else {
                    return 2;
                }
                break;
            case 0x0f:
                if (f != 0) {
                    return 2;
                }
                break;
            default:
                if (word != 0x73 && word != 0x100073) {
                    return 2;
                }
                r[32] = next;
                return word == 0x73 ? 6 : 7;
        }
        if (next % 4 != 0) {
            return 3;
        }
        if (result != null && d != 0) {
            r[d] = low(result);
        }
        r[32] = next;
        return 0;
    }

    private static long simple(int f, int g, long a, long b) {
        int n = (int) (b % 32);
        switch (f) {
            case 0:
                return g == 0 ? a + b : a - b;
            case 1:
                return a << n;
            case 2:
                return signed(a, 32) < signed(b, 32) ? 1 : 0;
            case 3:
                return a < b ? 1 : 0;
            case 4:
                return a ^ b;
            case 5:
                return g == 0 ? a >> n : signed(a, 32) >> n;
            case 6:
                return a | b;
            default:
                return a & b;
        }
    }

    private static long great(int f, long a, long b) {
        BigInteger sa = BigInteger.valueOf(signed(a, 32));
        BigInteger sb = BigInteger.valueOf(signed(b, 32));
        BigInteger ua = BigInteger.valueOf(a);
        BigInteger ub = BigInteger.valueOf(b);
        if (f >= 4 && b == 0) {
            return f < 6 ? -1 : a;
        }
        BigInteger[] results = {sa.multiply(sb), sa.multiply(sb).shiftRight(32), sa.multiply(ub).shiftRight(32), ua.multiply(ub).shiftRight(32)};
        if (f < 4) {
            return results[f].longValue();
        }
        switch (f) {
            case 4:
                return sa.divide(sb).longValue();
            case 5:
                return ua.divide(ub).longValue();
            case 6:
                return sa.remainder(sb).longValue();
            default:
                return ua.remainder(ub).longValue();
        }
    }
}
