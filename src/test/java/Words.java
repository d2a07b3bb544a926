/** Words for the BOARD, by the forms of their numbers: I, none, S, B, J and U. */
final class Words {
    private Words() {
    }

    static int i(int op, int d, int f, int a, int number) {
        return number << 20 | a << 15 | f << 12 | d << 7 | op;
    }

    static int r(int g, int d, int f, int a, int b) {
        return g << 25 | b << 20 | a << 15 | f << 12 | d << 7 | 0x33;
    }

    static int s(int f, int a, int b, int offset) {
        return offset >> 5 << 25 | b << 20 | a << 15 | f << 12 | (offset & 31) << 7 | 0x23;
    }

    static int b(int f, int a, int b, int offset) {
        return (offset >> 12 & 1) << 31 | (offset >> 5 & 63) << 25 | b << 20 | a << 15 | f << 12 | (offset >> 1 & 15) << 8 | (offset >> 11 & 1) << 7 | 0x63;
    }

    static int j(int d, int offset) {
        return (offset >> 20 & 1) << 31 | (offset >> 1 & 1023) << 21 | (offset >> 11 & 1) << 20 | (offset >> 12 & 255) << 12 | d << 7 | 0x6f;
    }

    /** The number's lowest twelve bits do not count. */
    static int u(int op, int d, int number) {
        return number & 0xfffff000 | d << 7 | op;
    }
}
