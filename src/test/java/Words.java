import java.util.Random;

/** Words for the BOARD, by the forms of their numbers: I, none, S, B, J and U. */
final class Words {
    private Words() {
    }

    static int i(int op, int d, int f, int a, int number) {
        return number << 20 | a << 15 | f << 12 | d << 7 | op;
    }

    static int r(int g, int d, int f, int a, int b) {
        return g << 25 | b << 20 | a << 15 | f << 12 | d << 7 | 0x33;
    }

    static int s(int f, int a, int b, int offset) {
        return offset >> 5 << 25 | b << 20 | a << 15 | f << 12 | (offset & 31) << 7 | 0x23;
    }

    static int b(int f, int a, int b, int offset) {
        return (offset >> 12 & 1) << 31 | (offset >> 5 & 63) << 25 | b << 20 | a << 15 | f << 12 | (offset >> 1 & 15) << 8 | (offset >> 11 & 1) << 7 | 0x63;
    }

    static int j(int d, int offset) {
        return (offset >> 20 & 1) << 31 | (offset >> 1 & 1023) << 21 | (offset >> 11 & 1) << 20 | (offset >> 12 & 255) << 12 | d << 7 | 0x6f;
    }

    /** The number's lowest twelve bits do not count. */
    static int u(int op, int d, int number) {
        return number & 0xfffff000 | d << 7 | op;
    }

    /** A word that is mostly one of those that the BOARD knows. */
    static int byChance(Random random) {
        int[] codes = {0x37, 0x17, 0x6f, 0x67, 0x63, 0x03, 0x23, 0x13, 0x33, 0x33, 0x33, 0x33, 0x13, 0x13, 0x0f, 0x73};
        int word = random.nextInt() & ~127 | codes[random.nextInt(codes.length)];
        int code = word & 127;
        if (code == 0x33 && random.nextInt(20) > 0) {
            int[] kinds = {0, 1, 1, 32};
            word = word & 0x1ffffff | kinds[random.nextInt(4)] << 25;
        }
        if (code == 0x6f || code == 0x63) {
            // Mostly near, so that the words go on.
            int offset = (random.nextInt(20) - 8) * (random.nextInt(5) == 0 ? 2 : 4);
            word = code == 0x6f ? j(word >> 7 & 31, offset) : b(word >> 12 & 7, word >> 15 & 31, word >> 20 & 31, offset);
        }
        if ((code == 0x03 || code == 0x23) && random.nextInt(3) > 0) {
            word &= ~(31 << 15);
        }
        if (code == 0x73 && random.nextInt(3) > 0) {
            word = random.nextBoolean() ? 0x73 : 0x100073;
        }
        return word;
    }
}
