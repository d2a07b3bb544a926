import java.util.function.IntBinaryOperator;

/** The edges of Terms 3 and of promises 12 to 15: MEMORY, registers, words and stops; each sentence on its own. */
public final class BoardEdgesTest {
    private static final int LEAST = Integer.MIN_VALUE;
    private static final int MOST = Integer.MAX_VALUE;
    private static final int[] NUMBERS = {0, 1, 2, 3, 31, 32, 33, 127, 128, 255, 256, 2047, 2048, 32767, 32768, 65535, 65536, MOST - 1, MOST, LEAST, LEAST + 1, -65536, -32769, -32768, -2049, -2048, -129, -128, -32, -31, -3, -2, -1};
    private static final int NOTHING = 0x13;
    private static final int ECALL = 0x73;
    private static final int EBREAK = 0x100073;

    public static void main(String[] args) {
        putFrom0To16380();
        set1To32();
        goWith1To1000();
        boardOf0To33And100To4195();
        register0IsAlways0();
        eachRegisterInEachPart();
        theLowestByteFirst();
        upperNumbers();
        jumps();
        jumpsByRegister();
        branches();
        branchesThatDoNotGo();
        loads();
        stores();
        addressesGoAround();
        withNumbers();
        shiftsByNumbers();
        withRegisters();
        products();
        quotients();
        nothingAndCalls();
        allOthersAreNone();
        fetches();
        whichStopIsFirst();
        whatDoesNotWorkIsNotDone();
        nothingToDoWithTexts();
        Due.done();
    }

    /** A BOARD whose PC is at this address, with this word there, and a and b in REGISTERS 1 and 2. */
    private static CompiledHouse at(int pc, int word, int a, int b) {
        CompiledHouse x = new CompiledHouse();
        Due.be("put at " + pc, x.put(pc, word), true);
        x.set(32, pc);
        x.set(1, a);
        x.set(2, b);
        return x;
    }

    private static void becomes(String what, int word, int a, int b, int due) {
        CompiledHouse x = at(40, word | 3 << 7, a, b);
        x.set(3, 0x5a5a5a5a);
        Due.be(what, x.go(1), 0);
        Due.be(what + " of " + a + " and " + b, x.board(3), due);
        Due.be(what + ": PC", x.board(32), 44);
        Due.be(what + ": a", x.board(1), a);
        Due.be(what + ": b", x.board(2), b);
        Due.be(what + ": words", x.board(33), 1);
    }

    // Promise 12: "false, if the address is no multiple of 4 from 0 to 16380"

    private static void putFrom0To16380() {
        for (int address : new int[] {LEAST, LEAST + 4, -16384, -8, -4, -3, -2, -1, 0, 1, 2, 3, 4, 5, 6, 7, 8, 8192, 16376, 16377, 16379, 16380, 16381, 16382, 16383, 16384, 16388, 65536, MOST - 3, MOST}) {
            boolean there = address >= 0 && address <= 16380 && address % 4 == 0;
            for (int word : new int[] {1, -1, LEAST, MOST, 0}) {
                CompiledHouse x = new CompiledHouse();
                Due.be("put at " + address, x.put(address, word), there);
                int k = there ? address / 4 : 0;
                Due.be("word " + k, x.board(100 + k), there ? word : 0);
                Due.be("the one ahead", k == 0 ? 0 : x.board(99 + k), 0);
                Due.be("the one behind", k == 4095 ? 0 : x.board(101 + k), 0);
            }
        }
        // Each word has its own place.
        CompiledHouse x = new CompiledHouse();
        for (int k = 0; k < 4096; k++) {
            if (k % 250 == 0) {
                x = new CompiledHouse();
            }
            Due.be("put", x.put(k * 4, k + 1), true);
            Due.be("word", x.board(100 + k), k + 1);
        }
    }

    // Promise 13: "A REGISTER of the BOARD, 32 is PC, becomes a number: true; false if it is none, or 0"

    private static void set1To32() {
        for (int register : new int[] {LEAST, -32, -2, -1, 0, 1, 2, 15, 16, 30, 31, 32, 33, 34, 64, 100, 132, MOST}) {
            boolean there = register >= 1 && register <= 32;
            for (int number : new int[] {1, -1, LEAST, MOST, 0, 3, 16384}) {
                CompiledHouse x = new CompiledHouse();
                Due.be("set " + register, x.set(register, number), there);
                for (int i = 0; i <= 33; i++) {
                    Due.be("register " + i, x.board(i), there && i == register ? number : 0);
                }
                Due.be("memory", x.board(100), 0);
            }
        }
    }

    // Promise 14: "at most n words, 1 .. 1000: 0 when these are done, else why it stopped, 1 .. 7 (6 and 7 also at the last one)"

    private static void goWith1To1000() {
        for (int n : new int[] {LEAST, -1000, -1, 0, 1, 2, 3, 999, 1000, 1001, 1002, MOST}) {
            boolean there = n >= 1 && n <= 1000;
            CompiledHouse x = at(0, Words.j(0, 0), 0, 0);
            Due.be("go " + n, x.go(n), there ? 0 : -1);
            Due.be("words", x.board(33), there ? n : 0);
            CompiledHouse y = new CompiledHouse();
            Due.be("go " + n + " at no word", y.go(n), there ? 2 : -1);
        }
        int[] stops = {0, Words.j(0, 2), Words.i(0x03, 3, 1, 0, 1), Words.i(0x03, 3, 0, 0, -1), ECALL, EBREAK};
        int[] why = {2, 3, 4, 5, 6, 7};
        for (int k = 0; k < stops.length; k++) {
            for (int n = 1; n <= 5; n++) {
                // Three words that do nothing, then the one that stops, then two more.
                CompiledHouse x = new CompiledHouse();
                for (int w = 0; w < 6; w++) {
                    x.put(w * 4, w == 3 ? stops[k] : Words.i(0x13, 5, 0, 5, 1));
                }
                int done = why[k] >= 6 ? 4 : 3;
                Due.be("go " + n, x.go(n), n <= 3 ? 0 : why[k]);
                Due.be("words", x.board(33), Math.min(n, done));
                Due.be("PC", x.board(32), 4 * Math.min(n, done));
                Due.be("counted", x.board(5), Math.min(n, 3));
                if (n >= 4) {
                    // It stops there again, or goes on behind it.
                    Due.be("go on", x.go(2), why[k] >= 6 ? 0 : why[k]);
                    Due.be("words", x.board(33), why[k] >= 6 ? 6 : 3);
                }
            }
        }
        CompiledHouse x = at(16380, NOTHING, 0, 0);
        Due.be("the last word of MEMORY", x.go(1), 0);
        Due.be("PC", x.board(32), 16384);
        Due.be("go on", x.go(1), 1);
        Due.be("words", x.board(33), 1);
        x = at(16376, NOTHING, 0, 0);
        x.put(16380, NOTHING);
        Due.be("beyond it", x.go(3), 1);
        Due.be("words", x.board(33), 2);
    }

    // Promise 15

    private static void boardOf0To33And100To4195() {
        CompiledHouse x = new CompiledHouse();
        for (int i = 1; i <= 32; i++) {
            x.set(i, i == 32 ? 8 : i + 500);
        }
        x.put(0, -7);
        x.put(8, Words.j(0, 0));
        x.put(16380, -8);
        x.go(9);
        for (int i : new int[] {LEAST, -100, -2, -1, 34, 35, 50, 98, 99, 4196, 4197, 8192, 16480, MOST}) {
            Due.be("board " + i, x.board(i), -1);
        }
        Due.be("REGISTER 0", x.board(0), 0);
        for (int i = 1; i <= 31; i++) {
            Due.be("REGISTER " + i, x.board(i), i + 500);
        }
        Due.be("PC", x.board(32), 8);
        Due.be("words", x.board(33), 9);
        Due.be("word 0", x.board(100), -7);
        Due.be("word 1", x.board(101), 0);
        Due.be("word 2", x.board(102), Words.j(0, 0));
        Due.be("word 4094", x.board(4194), 0);
        Due.be("word 4095", x.board(4195), -8);
    }

    // "REGISTERS 0 .. 31 (0 is always 0)"

    private static void register0IsAlways0() {
        int[] words = {Words.u(0x37, 0, -1), Words.u(0x17, 0, 4096), Words.j(0, 8), Words.i(0x67, 0, 0, 0, 8), Words.i(0x03, 0, 2, 0, 0), Words.i(0x03, 0, 4, 0, 0), Words.i(0x13, 0, 0, 0, 5), Words.i(0x13, 0, 6, 0, -1),
            Words.r(0, 0, 0, 1, 2), Words.r(1, 0, 0, 1, 2), Words.r(1, 0, 4, 1, 2), Words.r(32, 0, 0, 1, 2)};
        for (int word : words) {
            CompiledHouse x = at(4, word, 77, 3);
            x.put(0, -1);
            Due.be("go", x.go(1), 0);
            Due.be("REGISTER 0 behind " + Integer.toHexString(word), x.board(0), 0);
            Due.be("words", x.board(33), 1);
        }
        // As a and b it is 0, too.
        becomes("0 + 5", Words.i(0x13, 0, 0, 0, 5), 9, 9, 5);
        becomes("0 - b", Words.r(32, 0, 0, 0, 2), 9, 9, -9);
        becomes("a + 0", Words.r(0, 0, 0, 1, 0), 9, 9, 9);
        CompiledHouse x = at(0, Words.s(2, 0, 0, 64), 0, 0);
        x.put(64, -1);
        Due.be("go", x.go(1), 0);
        Due.be("what is stored of it", x.board(116), 0);
        // All others are not.
        for (int d = 1; d <= 31; d++) {
            CompiledHouse y = new CompiledHouse();
            y.put(0, Words.i(0x13, d, 0, 0, -5));
            y.put(4, Words.r(0, 32 - d, 0, d, d));
            Due.be("go", y.go(2), 0);
            Due.be("REGISTER " + d, y.board(d), d == 16 ? -10 : -5);
            Due.be("REGISTER " + (32 - d), y.board(32 - d), -10);
        }
    }

    // "d is bits 7 .. 11, .. a 15 .. 19, b 20 .. 24"

    private static void eachRegisterInEachPart() {
        for (int n = 1; n <= 31; n++) {
            int other = n == 31 ? 1 : n + 1;
            int[] words = {Words.r(0, n, 0, other, 0), Words.r(0, other, 0, 0, n), Words.r(1, other, 0, n, n), Words.i(0x13, n, 0, n, 1), Words.u(0x37, n, 4096), Words.u(0x17, n, 4096), Words.j(n, 8), Words.i(0x67, n, 0, 0, 64),
                Words.i(0x67, 0, 0, n, 0), Words.i(0x03, n, 2, 0, 200), Words.i(0x03, 0, 2, n, 0), Words.i(0x03, other, 4, n, 0), Words.s(2, 0, n, 208), Words.s(2, n, other, 8), Words.b(0, n, n, 16), Words.b(1, n, 0, 16), Words.b(4, 0, n, 16), Words.b(6, other, n, 16)};
            for (int k = 0; k < words.length; k++) {
                CompiledHouse x = at(4, words[k], 1 * 4 + 100, 2 * 4 + 100);
                for (int r = 1; r <= 31; r++) {
                    x.set(r, r * 4 + 100);
                }
                x.put(200, -77);
                x.put(n * 4 + 100, 0x1122);
                int[] r = new int[32];
                for (int i = 1; i <= 31; i++) {
                    r[i] = i * 4 + 100;
                }
                int pc = 8;
                switch (k) {
                    case 0 -> r[n] = r[other];
                    case 1 -> r[other] = r[n];
                    case 2 -> r[other] = r[n] * r[n];
                    case 3 -> r[n]++;
                    case 4 -> r[n] = 4096;
                    case 5 -> r[n] = 4100;
                    case 6 -> {
                        r[n] = 8;
                        pc = 12;
                    }
                    case 7 -> {
                        r[n] = 8;
                        pc = 64;
                    }
                    case 8 -> pc = r[n];
                    case 9 -> r[n] = n == 25 ? 0x1122 : -77;
                    case 11 -> r[other] = 0x22;
                    case 14, 15, 16 -> pc = 20;
                    case 17 -> pc = n == 31 ? 20 : 8;
                    default -> {
                    }
                }
                String what = "word " + k + " of register " + n;
                Due.be(what, x.go(1), 0);
                Due.be(what + ": PC", x.board(32), pc);
                for (int i = 0; i <= 31; i++) {
                    Due.be(what + ": register " + i, x.board(i), r[i]);
                }
                if (k == 12) {
                    Due.be(what, x.board(100 + 52), n * 4 + 100);
                }
                if (k == 13) {
                    Due.be(what, x.board(100 + (n * 4 + 108) / 4), other * 4 + 100);
                }
            }
        }
    }

    // "bytes at addresses 0 .. 16383, the lowest of a word first"

    private static void theLowestByteFirst() {
        for (int k = 0; k < 4; k++) {
            int[] due = {0x44, 0x33, 0x22, 0x11};
            for (int base : new int[] {0, 4, 16380}) {
                CompiledHouse x = at(64, Words.i(0x03, 3, 4, 1, k), base, 0);
                x.put(base, 0x11223344);
                Due.be("go", x.go(1), 0);
                Due.be("byte " + k, x.board(3), due[k]);
                x = at(64, Words.s(0, 1, 2, k), base, 0x987654aa);
                x.put(base, 0x11223344);
                Due.be("go", x.go(1), 0);
                Due.be("byte " + k, x.board(100 + base / 4), 0x11223344 & ~(255 << 8 * k) | 0xaa << 8 * k);
            }
        }
    }

    // "U: bits 12 .. 31, then twelve 0s", "37: d becomes U. 17: PC + U"

    private static void upperNumbers() {
        for (int u : new int[] {0, 0x1000, 0x7ffff000, 0x80000000, 0xfffff000, 0x12345000}) {
            for (int pc : new int[] {0, 4, 16380}) {
                CompiledHouse x = at(pc, Words.u(0x37, 3, u), 0, 0);
                Due.be("go", x.go(1), 0);
                Due.be("U", x.board(3), u);
                x = at(pc, Words.u(0x17, 3, u), 0, 0);
                Due.be("go", x.go(1), 0);
                Due.be("PC + U", x.board(3), pc + u);
                Due.be("PC", x.board(32), pc + 4);
            }
        }
    }

    // "6f: d becomes PC + 4, PC + J is next"; J: 20 bits, a 0, with its sign

    private static void jumps() {
        for (int pc : new int[] {0, 4, 8192, 16380}) {
            for (int offset : new int[] {0, 4, 8, -4, -8, 1024, 2044, 2048, -2048, 4096, -4096, 8192, 524288, 1048572, -1048576, -1048572, -524288}) {
                CompiledHouse x = at(pc, Words.j(3, offset), 0, 0);
                Due.be("go", x.go(1), 0);
                Due.be("PC", x.board(32), pc + offset);
                Due.be("d", x.board(3), pc + 4);
            }
            for (int offset : new int[] {2, -2, 6, 1048574, -1048574, 2046, 2050}) {
                CompiledHouse x = at(pc, Words.j(3, offset), 0, 0);
                Due.be("go", x.go(1), 3);
                Due.be("PC stays", x.board(32), pc);
                Due.be("d stays", x.board(3), 0);
                Due.be("words", x.board(33), 0);
            }
        }
    }

    // "67, f 0: likewise (a + I without its lowest bit; a as it was)"

    private static void jumpsByRegister() {
        for (int number : new int[] {0, 1, 2, 3, 4, 5, -1, -2, -3, -4, 2044, 2045, 2046, 2047, -2048, -2047}) {
            for (int a : new int[] {0, 1, 2, 3, 4, 16380, 16384, -4, -1, LEAST, MOST, MOST - 3}) {
                for (int d : new int[] {0, 1, 3}) {
                    int target = a + number & ~1;
                    boolean goes = target % 4 == 0;
                    CompiledHouse x = at(8, Words.i(0x67, d, 0, 1, number), a, 0);
                    Due.be("go", x.go(1), goes ? 0 : 3);
                    Due.be("PC", x.board(32), goes ? target : 8);
                    Due.be("d", x.board(d), d == 0 ? 0 : goes ? 12 : d == 1 ? a : 0);
                }
            }
        }
    }

    // "63: PC + B is next if f 0: a is b, 1: it is not, 4: a is below b, 5: it is not, 6, 7: as 4, 5 without signs"

    private static void branches() {
        for (int a : NUMBERS) {
            for (int b : new int[] {a, a + 1, a - 1, 0, -1, LEAST, MOST}) {
                boolean below = (long) a < (long) b;
                boolean unsigned = (a & 0xffffffffL) < (b & 0xffffffffL);
                boolean[] goes = {a == b, a != b, false, false, below, !below, unsigned, !unsigned};
                for (int f = 0; f < 8; f++) {
                    CompiledHouse x = at(400, Words.b(f, 1, 2, -200), a, b);
                    Due.be("go", x.go(1), f == 2 || f == 3 ? 2 : 0);
                    Due.be("PC of f " + f + ", " + a + " and " + b, x.board(32), f == 2 || f == 3 ? 400 : goes[f] ? 200 : 404);
                }
            }
        }
        for (int offset : new int[] {0, 4, -4, 28, 32, 60, 64, 1020, 1024, 2044, 2048, 2052, 4092, -4096, -4092, -2048, -2052, -32, -36}) {
            for (int pc : new int[] {0, 4096, 16380}) {
                CompiledHouse x = at(pc, Words.b(0, 1, 2, offset), 5, 5);
                Due.be("go", x.go(1), 0);
                Due.be("PC", x.board(32), pc + offset);
            }
        }
        for (int offset : new int[] {2, -2, 6, 4094, -4094, 30, 2046, 2050}) {
            CompiledHouse x = at(8192, Words.b(0, 1, 2, offset), 5, 5);
            Due.be("go", x.go(1), 3);
            Due.be("PC stays", x.board(32), 8192);
            Due.be("words", x.board(33), 0);
        }
    }

    // 3: "(or a branch that goes)"

    private static void branchesThatDoNotGo() {
        for (int f : new int[] {0, 1, 4, 5, 6, 7}) {
            boolean goesIfSame = f == 0 || f == 5 || f == 7;
            for (int offset : new int[] {2, -2, 4094}) {
                CompiledHouse same = at(8, Words.b(f, 1, 2, offset), 5, 5);
                Due.be("f " + f, same.go(1), goesIfSame ? 3 : 0);
                Due.be("PC", same.board(32), goesIfSame ? 8 : 12);
                CompiledHouse other = at(8, Words.b(f, 1, 2, offset), f == 1 ? 5 : f == 4 || f == 6 ? 4 : 6, f == 1 ? 6 : 5);
                boolean goes = f == 1 || f == 4 || f == 5 || f == 6 || f == 7;
                Due.be("f " + f, other.go(1), goes ? 3 : 0);
            }
        }
    }

    // "03: d becomes what is at a + I: f 0 a byte, 1 two, both with their sign, 2 four, 4 a byte, 5 two, with 0s"

    private static void loads() {
        int[] sizes = {1, 2, 4, 0, 1, 2, 0, 0};
        for (int f = 0; f < 8; f++) {
            for (int word : new int[] {0, -1, 0x80808080, 0x7f7f7f7f, 0x80007fff, 0x7fff8000, 0x12345678, 0x00ff0100}) {
                for (int address : new int[] {0, 1, 2, 3, 8, 9, 10, 11, 16376, 16380, 16381, 16382, 16383, 16384, 16385, 16386, 16388, -1, -2, -3, -4, LEAST, MOST}) {
                    CompiledHouse x = at(4, Words.i(0x03, 3, f, 1, 0), address, 0);
                    x.put(0, word);
                    x.put(8, word);
                    x.put(16376, word);
                    x.put(16380, word);
                    x.set(3, 0x5a5a5a5a);
                    int size = sizes[f];
                    int why = size == 0 ? 2 : address % size != 0 ? 4 : address < 0 || address > 16383 ? 5 : 0;
                    String what = "f " + f + " at " + address;
                    Due.be(what, x.go(1), why);
                    Due.be(what + ": PC", x.board(32), why == 0 ? 8 : 4);
                    if (why != 0) {
                        Due.be(what + ": d stays", x.board(3), 0x5a5a5a5a);
                        continue;
                    }
                    long bytes = (word & 0xffffffffL) >> 8 * (address % 4) & (1L << 8 * size) - 1;
                    long sign = 1L << 8 * size - 1;
                    Due.be(what, x.board(3), (int) (f < 3 && (bytes & sign) != 0 ? bytes - 2 * sign : bytes));
                }
            }
        }
        // d may be a.
        CompiledHouse x = at(4, Words.i(0x03, 1, 2, 1, 8), 56, 0);
        x.put(64, 99);
        Due.be("go", x.go(1), 0);
        Due.be("d", x.board(1), 99);
    }

    // "23: b's lowest byte (f 0), two (1), all four (2) come to a + S"

    private static void stores() {
        for (int f = 0; f < 8; f++) {
            int size = f < 3 ? 1 << f : 0;
            for (int number : new int[] {0, -1, 0x12345678, 0x80ff01fe}) {
                for (int address : new int[] {0, 1, 2, 3, 8, 9, 10, 11, 16376, 16380, 16381, 16382, 16383, 16384, 16385, 16386, 16388, -1, -2, -3, -4, LEAST, MOST}) {
                    CompiledHouse x = at(4, Words.s(f, 1, 2, 0), address, number);
                    for (int k : new int[] {0, 8, 16376, 16380}) {
                        x.put(k, 0x5a5a5a5a);
                    }
                    int why = size == 0 ? 2 : address % size != 0 ? 4 : address < 0 || address > 16383 ? 5 : 0;
                    String what = "f " + f + " at " + address;
                    Due.be(what, x.go(1), why);
                    for (int k : new int[] {0, 8, 16376, 16380}) {
                        long due = 0x5a5a5a5aL;
                        for (int n = 0; n < size && why == 0; n++) {
                            int at = address + n;
                            if (at / 4 * 4 == k) {
                                int shift = 8 * (at % 4);
                                due = due & ~(255L << shift) | (number >> 8 * n & 255L) << shift;
                            }
                        }
                        Due.be(what + ": word at " + k, x.board(100 + k / 4), (int) due);
                    }
                }
            }
        }
    }

    // "Addresses are 0 .. 2^32 - 1": a + I and a + S go around; I and S are -2048 .. 2047

    private static void addressesGoAround() {
        for (int number : new int[] {0, 4, 32, 64, 1024, 2044, -4, -32, -36, -1024, -2048, -2044}) {
            for (int address : new int[] {0, 4, 2048, 16380, 16384, -4, 1 << 30, LEAST}) {
                int a = address - number;
                boolean there = address >= 0 && address <= 16380;
                CompiledHouse x = at(8192, Words.i(0x03, 3, 2, 1, number), a, 0);
                x.put(address >= 0 && there ? address : 0, 321);
                Due.be("load at " + a + " + " + number, x.go(1), there ? 0 : 5);
                Due.be("loaded", x.board(3), there ? 321 : 0);
                x = at(8192, Words.s(2, 1, 2, number), a, 654);
                Due.be("store at " + a + " + " + number, x.go(1), there ? 0 : 5);
                Due.be("stored", there ? x.board(100 + address / 4) : 654, 654);
            }
        }
        for (int number : new int[] {2047, 2046, 1, 31, -1, -31, -33, -2047}) {
            CompiledHouse x = at(0, Words.i(0x03, 3, 4, 1, number), 4000, 0);
            x.put(4000 + number & ~3, 0x04030201);
            Due.be("go", x.go(1), 0);
            Due.be("byte", x.board(3), 1 + (4000 + number & 3));
            x = at(0, Words.s(0, 1, 2, number), 4000, 9);
            Due.be("go", x.go(1), 0);
            Due.be("byte", x.board(100 + (4000 + number) / 4), 9 << 8 * (4000 + number & 3));
        }
    }

    // "13: f 0 a + I, 2 whether a is below I (1 or 0), 3 likewise without signs (of I, too), 4 exclusive or, 6 or, 7 and"

    private static void withNumbers() {
        for (int a : NUMBERS) {
            for (int number : new int[] {0, 1, -1, 2, -2, 2046, 2047, -2047, -2048, 31, 32, 128, 1024}) {
                becomes("a + I", Words.i(0x13, 0, 0, 1, number), a, 0, (int) ((long) a + number));
                becomes("a below I", Words.i(0x13, 0, 2, 1, number), a, 0, (long) a < number ? 1 : 0);
                becomes("a below I without signs", Words.i(0x13, 0, 3, 1, number), a, 0, (a & 0xffffffffL) < (number & 0xffffffffL) ? 1 : 0);
                becomes("exclusive or", Words.i(0x13, 0, 4, 1, number), a, 0, (a | number) - (a & number));
                becomes("or", Words.i(0x13, 0, 6, 1, number), a, 0, ~(~a & ~number));
                becomes("and", Words.i(0x13, 0, 7, 1, number), a, 0, ~(~a | ~number));
            }
        }
    }

    // "with n = bits 20 .. 24: 1 (g 0) a shifted up by n, 5 down with 0s (g 0), with its sign (g 32)"

    private static void shiftsByNumbers() {
        for (int a : NUMBERS) {
            for (int n : new int[] {0, 1, 2, 15, 16, 30, 31}) {
                long power = 1L << n;
                becomes("up", Words.i(0x13, 0, 1, 1, n), a, 0, (int) (a * power));
                becomes("down with 0s", Words.i(0x13, 0, 5, 1, n), a, 0, (int) ((a & 0xffffffffL) / power));
                becomes("down with its sign", Words.i(0x13, 0, 5, 1, n | 32 << 5), a, 0, (int) Math.floorDiv((long) a, power));
            }
        }
        for (int g = 0; g < 128; g++) {
            CompiledHouse up = at(0, Words.i(0x13, 3, 1, 1, g << 5 | 1), 1, 0);
            Due.be("up, g " + g, up.go(1), g == 0 ? 0 : 2);
            CompiledHouse down = at(0, Words.i(0x13, 3, 5, 1, g << 5 | 1), 1, 0);
            Due.be("down, g " + g, down.go(1), g == 0 || g == 32 ? 0 : 2);
        }
    }

    private static void register(String what, int g, int f, IntBinaryOperator due) {
        for (int a : NUMBERS) {
            for (int b : NUMBERS) {
                becomes(what, Words.r(g, 0, f, 1, 2), a, b, due.applyAsInt(a, b));
            }
        }
    }

    // "33: g 0: f 0 a + b, 1 a shifted up, 5 down with 0s, by the lowest five bits of b, 2, 3 below, 4, 6, 7 as 13; g 32: f 0 a - b, 5 down with its sign"

    private static void withRegisters() {
        register("a + b", 0, 0, (a, b) -> (int) ((long) a + b));
        register("up", 0, 1, (a, b) -> (int) (a * (1L << Math.floorMod(b, 32))));
        register("below", 0, 2, (a, b) -> (long) a < (long) b ? 1 : 0);
        register("below without signs", 0, 3, (a, b) -> (a & 0xffffffffL) < (b & 0xffffffffL) ? 1 : 0);
        register("exclusive or", 0, 4, (a, b) -> (a | b) - (a & b));
        register("down with 0s", 0, 5, (a, b) -> (int) ((a & 0xffffffffL) / (1L << Math.floorMod(b, 32))));
        register("or", 0, 6, (a, b) -> ~(~a & ~b));
        register("and", 0, 7, (a, b) -> ~(~a | ~b));
        register("a - b", 32, 0, (a, b) -> (int) ((long) a - b));
        register("down with its sign", 32, 5, (a, b) -> (int) Math.floorDiv((long) a, 1L << Math.floorMod(b, 32)));
        for (int g = 0; g < 128; g++) {
            for (int f = 0; f < 8; f++) {
                CompiledHouse x = at(0, Words.r(g, 3, f, 1, 2), 6, 3);
                boolean some = g == 0 || g == 1 || g == 32 && (f == 0 || f == 5);
                Due.be("g " + g + ", f " + f, x.go(1), some ? 0 : 2);
            }
        }
    }

    // "g 1: f 0 the lowest 32 bits of a * b, the highest 32 of it 1 with signs, 2 with that of a alone, 3 without"

    private static void products() {
        register("lowest", 1, 0, (a, b) -> (int) ((long) a * b));
        register("highest", 1, 1, (a, b) -> (int) Math.floorDiv((long) a * b, 1L << 32));
        register("highest, with a's sign alone", 1, 2, (a, b) -> (int) Math.floorDiv(a * (b & 0xffffffffL), 1L << 32));
        register("highest without signs", 1, 3, (a, b) -> (int) Long.divideUnsigned((a & 0xffffffffL) * (b & 0xffffffffL), 1L << 32));
    }

    // "4 a / b, 5 without signs, 6 a % b, 7 without signs (by 0: all bits 1, and a; else as above)"

    private static void quotients() {
        register("a / b", 1, 4, (a, b) -> b == 0 ? -1 : (int) ((long) a / b));
        register("a / b without signs", 1, 5, (a, b) -> b == 0 ? -1 : Integer.divideUnsigned(a, b));
        register("a % b", 1, 6, (a, b) -> b == 0 ? a : (int) ((long) a % b));
        register("a % b without signs", 1, 7, (a, b) -> b == 0 ? a : Integer.remainderUnsigned(a, b));
        becomes("-2^31 / -1", Words.r(1, 0, 4, 1, 2), LEAST, -1, LEAST);
        becomes("-2^31 % -1", Words.r(1, 0, 6, 1, 2), LEAST, -1, 0);
        becomes("2^31 / (2^32 - 1)", Words.r(1, 0, 5, 1, 2), LEAST, -1, 0);
        becomes("2^31 % (2^32 - 1)", Words.r(1, 0, 7, 1, 2), LEAST, -1, LEAST);
    }

    // "0f, f 0: nothing. 00000073: ECALL. 00100073: EBREAK"

    private static void nothingAndCalls() {
        for (int f = 0; f < 8; f++) {
            for (int rest : new int[] {0, 31 << 7, 31 << 15, 0xfff00000, 0x0ff00000}) {
                CompiledHouse x = at(0, 0x0f | f << 12 | rest, 5, 6);
                Due.be("0f, f " + f, x.go(1), f == 0 ? 0 : 2);
                Due.be("words", x.board(33), f == 0 ? 1 : 0);
                for (int i = 1; i < 32; i++) {
                    Due.be("register", x.board(i), i == 1 ? 5 : i == 2 ? 6 : 0);
                }
            }
        }
        for (int pc : new int[] {0, 8, 16380}) {
            for (int k = 0; k < 2; k++) {
                CompiledHouse x = at(pc, k == 0 ? ECALL : EBREAK, 5, 6);
                Due.be("go", x.go(1), 6 + k);
                Due.be("PC is behind it", x.board(32), pc + 4);
                Due.be("it is counted", x.board(33), 1);
                Due.be("go on", x.go(1), pc == 16380 ? 1 : 2);
                Due.be("words", x.board(33), 1);
            }
        }
        // One bit more or less is none.
        for (int bit = 0; bit < 32; bit++) {
            for (int word : new int[] {ECALL, EBREAK}) {
                int other = word ^ 1 << bit;
                CompiledHouse x = at(0, other, 0, 0);
                int code = other & 127;
                boolean some = code == 0x33 || code == 0x63 || other == ECALL || other == EBREAK;
                if (!some) {
                    Due.be("word " + Integer.toHexString(other), x.go(1), 2);
                    Due.be("PC stays", x.board(32), 0);
                }
            }
        }
    }

    // "All others are none"

    private static void allOthersAreNone() {
        for (int code = 0; code < 128; code++) {
            boolean some = code == 0x37 || code == 0x17 || code == 0x6f || code == 0x67 || code == 0x63 || code == 0x03 || code == 0x23 || code == 0x13 || code == 0x33 || code == 0x0f;
            for (int rest : new int[] {0, 0x100000, 0x00001000, 0xffffff80}) {
                int word = code | rest;
                if (some || word == ECALL || word == EBREAK) {
                    continue;
                }
                CompiledHouse x = at(0, word, 0, 0);
                Due.be("word " + Integer.toHexString(word), x.go(1), 2);
            }
            if (some) {
                CompiledHouse x = at(0, code, 0, 0);
                Due.be("word " + Integer.toHexString(code), x.go(1), 0);
            }
        }
        for (int f = 1; f < 8; f++) {
            Due.be("67, f " + f, at(0, Words.i(0x67, 3, f, 0, 8), 0, 0).go(1), 2);
        }
    }

    // "1 FETCH: PC is no multiple of 4, or beyond MEMORY"

    private static void fetches() {
        for (int pc : new int[] {LEAST, LEAST + 4, -16384, -8, -4, -3, -2, -1, 0, 1, 2, 3, 4, 5, 6, 7, 8, 16376, 16377, 16378, 16379, 16380, 16381, 16382, 16383, 16384, 16385, 16388, 65536, 1 << 30, MOST - 3, MOST}) {
            CompiledHouse x = new CompiledHouse();
            for (int address : new int[] {0, 4, 8, 16376, 16380}) {
                x.put(address, NOTHING);
            }
            x.set(32, pc);
            boolean there = pc >= 0 && pc <= 16380 && pc % 4 == 0;
            Due.be("go at " + pc, x.go(1), there ? 0 : 1);
            Due.be("PC", x.board(32), there ? pc + 4 : pc);
            Due.be("words", x.board(33), there ? 1 : 0);
        }
        // A jump goes there first, and stops then.
        CompiledHouse x = at(0, Words.j(3, -4), 0, 0);
        Due.be("go", x.go(2), 1);
        Due.be("PC", x.board(32), -4);
        Due.be("d", x.board(3), 4);
        Due.be("words", x.board(33), 1);
    }

    // "the first of"

    private static void whichStopIsFirst() {
        // FETCH ahead of NONE.
        CompiledHouse x = new CompiledHouse();
        x.set(32, 2);
        Due.be("go", x.go(1), 1);
        // NONE ahead of a bad jump, and of a bad address.
        Due.be("f 1 of 67", at(0, Words.i(0x67, 3, 1, 0, 2), 0, 0).go(1), 2);
        Due.be("f 2 of 63", at(0, Words.b(2, 0, 0, 2), 0, 0).go(1), 2);
        for (int address : new int[] {1, 2, 16384, 16385, -1}) {
            Due.be("f 3 of 03", at(0, Words.i(0x03, 3, 3, 1, 0), address, 0).go(1), 2);
            Due.be("f 6 of 03", at(0, Words.i(0x03, 3, 6, 1, 0), address, 0).go(1), 2);
            Due.be("f 3 of 23", at(0, Words.s(3, 1, 2, 0), address, 0).go(1), 2);
        }
        // A bad multiple ahead of what is beyond.
        for (int address : new int[] {16385, 16387, -1, -3, MOST, LEAST + 1, 16383}) {
            Due.be("two at " + address, at(0, Words.i(0x03, 3, 1, 1, 0), address, 0).go(1), 4);
            Due.be("two at " + address, at(0, Words.i(0x03, 3, 5, 1, 0), address, 0).go(1), 4);
            Due.be("four at " + address, at(0, Words.i(0x03, 3, 2, 1, 0), address, 0).go(1), 4);
            Due.be("two to " + address, at(0, Words.s(1, 1, 2, 0), address, 0).go(1), 4);
            Due.be("four to " + address, at(0, Words.s(2, 1, 2, 0), address, 0).go(1), 4);
        }
        for (int address : new int[] {16382, 16386, -2}) {
            Due.be("two at " + address, at(0, Words.i(0x03, 3, 1, 1, 0), address, 0).go(1), address == 16382 ? 0 : 5);
            Due.be("four at " + address, at(0, Words.i(0x03, 3, 2, 1, 0), address, 0).go(1), 4);
        }
    }

    // "What does not work is not done, PC stays"

    private static void whatDoesNotWorkIsNotDone() {
        int[] words = {0, -1, Words.j(3, 2), Words.i(0x67, 3, 0, 1, 2), Words.b(0, 0, 0, 2), Words.i(0x03, 3, 2, 1, 1), Words.i(0x03, 3, 1, 1, 1), Words.i(0x03, 3, 0, 1, -1), Words.s(2, 1, 2, 1), Words.s(1, 1, 2, 1), Words.s(0, 1, 2, -1),
            Words.i(0x13, 3, 1, 1, 1 << 5), Words.r(2, 3, 0, 1, 2), 0x100f};
        int[] why = {2, 2, 3, 3, 3, 4, 4, 5, 4, 4, 5, 2, 2, 2};
        for (int k = 0; k < words.length; k++) {
            int word = words[k];
            int stop = why[k];
            Seen.unchanged("a stop " + stop, () -> {
                CompiledHouse x = at(8, word, 0, 7);
                x.put(0, 0x01020304);
                x.set(3, 33);
                return x;
            }, x -> {
                Due.be("go", x.go(1), stop);
                Due.be("go", x.go(1000), stop);
                Due.be("words", x.board(33), 0);
            });
        }
    }

    // "What the BOARD does has nothing to do with texts and runs"

    private static void nothingToDoWithTexts() {
        String text = "int g=1;int main(){put(2);g=get();while(g){g--;put(g);}}";
        CompiledHouse x = Due.house(text);
        CompiledHouse twin = Due.house(text);
        CompiledHouse board = at(0, Words.i(0x13, 1, 0, 1, 1), 5, 6);
        x.set(32, 0);
        x.set(1, 5);
        x.set(2, 6);
        x.put(0, Words.i(0x13, 1, 0, 1, 1));
        for (CompiledHouse house : new CompiledHouse[] {x, twin}) {
            house.give(3);
            house.begin(10);
            house.run(2);
        }
        for (CompiledHouse house : new CompiledHouse[] {x, board}) {
            house.put(4, Words.j(0, -4));
            Due.be("go", house.go(25), 0);
            house.put(16380, 9);
        }
        for (CompiledHouse house : new CompiledHouse[] {x, twin}) {
            Due.be("run", house.run(1), 3);
            Due.be("global", house.global(0), 0);
            Due.be("output", house.output(3), 0);
            Due.be("outputs", house.world(2), 4);
        }
        for (int i = 0; i < 34; i++) {
            Due.be("board " + i, x.board(i), board.board(i));
        }
        Due.be("read", Due.read(x, "int main(){"), 11 * 16 + 2);
        Due.be("read", Due.read(x, text), 0);
        x.begin(4);
        x.run(9);
        for (int i = 0; i < 34; i++) {
            Due.be("board " + i, x.board(i), board.board(i));
        }
        Due.be("word", x.board(100), board.board(100));
        Due.be("word", x.board(4195), 9);
    }
}
