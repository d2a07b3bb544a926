import java.util.Random;

/** Promises 12 to 15: put, set, go, board. */
public final class BoardTest {
    public static void main(String[] args) {
        put();
        set();
        go();
        board();
        stops();
        nothingToDoWithTexts();
        jumps();
        memory();
        for (int seed = 0; seed < 3000 && Due.wrong() == 0; seed++) {
            byChance(new Random(seed), "seed " + seed + ": ");
        }
        Due.done();
    }

    private static void put() {
        CompiledHouse x = new CompiledHouse();
        Due.be("put", x.put(0, 11), true);
        Due.be("put", x.put(16380, -12), true);
        Due.be("put", x.put(400, 13), true);
        for (int address : new int[] {-4, -1, 1, 2, 3, 16381, 16384, 16388, Integer.MIN_VALUE, Integer.MAX_VALUE}) {
            Due.be("put at " + address, x.put(address, 5), false);
        }
        Due.be("first", x.board(100), 11);
        Due.be("last", x.board(4195), -12);
        Due.be("other", x.board(200), 13);
        Due.be("next", x.board(101), 0);
    }

    private static void set() {
        CompiledHouse x = new CompiledHouse();
        for (int n = 1; n <= 32; n++) {
            Due.be("set", x.set(n, n * 1000), true);
        }
        for (int n : new int[] {0, -1, 33, 100, Integer.MIN_VALUE, Integer.MAX_VALUE}) {
            Due.be("set " + n, x.set(n, 7), false);
        }
        Due.be("0 is 0", x.board(0), 0);
        for (int n = 1; n <= 32; n++) {
            Due.be("register", x.board(n), n * 1000);
        }
        Due.be("words", x.board(33), 0);
    }

    private static void go() {
        CompiledHouse x = new CompiledHouse();
        for (int n : new int[] {0, -1, 1001, Integer.MIN_VALUE, Integer.MAX_VALUE}) {
            Due.be("go " + n, x.go(n), -1);
        }
        // A loop of two words.
        x.put(0, Words.i(0x13, 1, 0, 1, 1));
        x.put(4, Words.j(0, -4));
        Due.be("go", x.go(1000), 0);
        Due.be("counted", x.board(1), 500);
        Due.be("words", x.board(33), 1000);
        Due.be("PC", x.board(32), 0);
        Due.be("go", x.go(1), 0);
        Due.be("PC", x.board(32), 4);
        Due.be("counted", x.board(1), 501);
        x.put(4, 0x73);
        Due.be("ECALL at the last one", x.go(1), 6);
        Due.be("PC is behind it", x.board(32), 8);
        Due.be("words", x.board(33), 1002);
        x.put(8, 0x100073);
        Due.be("EBREAK", x.go(1000), 7);
        Due.be("PC is behind it", x.board(32), 12);
        Due.be("words", x.board(33), 1003);
        Due.be("no word", x.go(1), 2);
        Due.be("PC stays", x.board(32), 12);
        Due.be("words", x.board(33), 1003);
    }

    private static void board() {
        CompiledHouse x = new CompiledHouse();
        for (int n : new int[] {-1, 34, 35, 99, 4196, 5000, Integer.MIN_VALUE, Integer.MAX_VALUE}) {
            Due.be("board " + n, x.board(n), -1);
        }
        for (int n = 0; n < 34; n++) {
            Due.be("board " + n, x.board(n), 0);
        }
        for (int n = 100; n < 4196; n++) {
            Due.be("board " + n, x.board(n), 0);
        }
    }

    private static void stop(int word, int pc, int why) {
        CompiledHouse x = new CompiledHouse();
        x.put(pc & ~3, word);
        x.set(32, pc);
        x.set(1, 1);
        x.set(2, 2);
        x.set(3, 16384);
        x.set(4, -4);
        x.set(5, 16382);
        String what = "word " + Integer.toHexString(word) + " at " + pc;
        Due.be(what, x.go(1), why);
        Due.be(what + ": PC", x.board(32), why == 0 || why > 5 ? pc + 4 : pc);
        Due.be(what + ": done", x.board(33), why == 0 || why > 5 ? 1 : 0);
        if (why != 0) {
            Due.be(what + ": not done", x.board(31), 0);
        }
    }

    private static void stops() {
        int nop = 0x13;
        stop(nop, 0, 0);
        stop(nop, 16380, 0);
        stop(nop, 1, 1);
        stop(nop, 2, 1);
        stop(nop, 16384, 1);
        stop(nop, -4, 1);
        stop(nop, Integer.MIN_VALUE, 1);
        stop(0, 0, 2);
        stop(-1, 0, 2);
        stop(0x200073, 0, 2);
        stop(0x10200073, 0, 2);
        stop(0x000000f3, 0, 2);
        stop(0x00001073, 0, 2);
        stop(0x0f, 0, 0);
        stop(0xfff0000f, 0, 0);
        stop(0x0f | 31 << 7, 0, 0);
        stop(0x100f, 0, 2);
        for (int f = 0; f < 8; f++) {
            stop(Words.i(0x67, 31, f, 2, 2), 8, f == 0 ? 0 : 2, 4);
            stop(Words.b(f, 0, 0, 2), 0, f == 2 || f == 3 ? 2 : f == 0 || f == 5 || f == 7 ? 3 : 0);
            stop(Words.i(0x03, 31, f, 0, 64), 0, f == 3 || f > 5 ? 2 : 0);
            stop(Words.i(0x03, 31, f, 1, 0), 0, f == 3 || f > 5 ? 2 : (f & 3) == 0 ? 0 : 4);
            stop(Words.i(0x03, 31, f, 2, 0), 0, f == 3 || f > 5 ? 2 : f == 2 ? 4 : 0);
            stop(Words.i(0x03, 31, f, 3, 0), 0, f == 3 || f > 5 ? 2 : 5);
            stop(Words.i(0x03, 31, f, 3, 1), 0, f == 3 || f > 5 ? 2 : (f & 3) == 0 ? 5 : 4);
            stop(Words.i(0x03, 31, f, 3, -4), 0, f == 3 || f > 5 ? 2 : 0);
            stop(Words.i(0x03, 31, f, 4, 0), 0, f == 3 || f > 5 ? 2 : 5);
            stop(Words.i(0x03, 31, f, 4, 4), 0, f == 3 || f > 5 ? 2 : 0);
            stop(Words.i(0x03, 0, f, 3, 0), 0, f == 3 || f > 5 ? 2 : 5);
            stop(Words.s(f, 0, 31, 64), 0, f > 2 ? 2 : 0);
            stop(Words.s(f, 1, 31, 0), 0, f > 2 ? 2 : f == 0 ? 0 : 4);
            stop(Words.s(f, 5, 31, 0), 0, f > 2 ? 2 : f == 2 ? 4 : 0);
            stop(Words.s(f, 3, 31, 0), 0, f > 2 ? 2 : 5);
            stop(Words.s(f, 3, 31, -4), 0, f > 2 ? 2 : 0);
            for (int g = 0; g < 128; g++) {
                boolean number = f != 1 && f != 5 || g == 0 || f == 5 && g == 32;
                stop(Words.i(0x13, 31, f, 0, g << 5) & ~0xf80, 0, number ? 0 : 2);
                boolean register = g == 0 || g == 1 || g == 32 && (f == 0 || f == 5);
                stop(Words.r(g, 0, f, 1, 2), 0, register ? 0 : 2);
            }
        }
        for (int code = 0; code < 128; code++) {
            boolean some = "37 17 6f 67 63 03 23 13 33 0f 73".contains(String.format("%02x", code));
            if (!some) {
                stop(code, 0, 2);
            }
        }
        stop(Words.j(31, 2), 0, 3);
        stop(Words.j(31, 6), 0, 3);
        stop(Words.i(0x67, 31, 0, 2, 0), 0, 3);
        stop(Words.i(0x67, 31, 0, 2, 1), 0, 3);
    }

    private static void stop(int word, int pc, int why, int next) {
        CompiledHouse x = new CompiledHouse();
        x.put(pc, word);
        x.set(32, pc);
        x.set(2, 2);
        Due.be("jump", x.go(1), why);
        Due.be("PC", x.board(32), why == 0 ? next : pc);
        Due.be("link", x.board(31), why == 0 ? pc + 4 : 0);
    }

    private static void nothingToDoWithTexts() {
        CompiledHouse x = new CompiledHouse();
        x.put(0, Words.i(0x13, 1, 0, 0, 5));
        x.set(7, 77);
        Due.be("read", Due.read(x, "int g=1;int main(){g=2;put(3);}"), 0);
        x.begin(10);
        x.run(1);
        Due.be("memory", x.board(100), Words.i(0x13, 1, 0, 0, 5));
        Due.be("go", x.go(1), 0);
        Due.be("register", x.board(1), 5);
        Due.be("register", x.board(7), 77);
        Due.be("global", x.global(0), 2);
        Due.be("output", x.output(0), 3);
        x.read();
        Due.be("register", x.board(1), 5);
        Due.be("words", x.board(33), 1);
    }

    private static void jumps() {
        CompiledHouse x = new CompiledHouse();
        for (int offset : new int[] {4, -4, 2048, -2048, 4092, -4096, 8192, -8192, 4}) {
            x.set(32, 8192);
            x.put(8192, Words.j(5, offset));
            Due.be("go", x.go(1), 0);
            Due.be("PC", x.board(32), 8192 + offset);
            Due.be("link", x.board(5), 8196);
            if (offset >= -4096 && offset < 4096) {
                x.set(32, 8192);
                x.put(8192, Words.b(0, 3, 3, offset));
                Due.be("go", x.go(1), 0);
                Due.be("PC", x.board(32), 8192 + offset);
            }
        }
        // A jump beyond MEMORY is done; what fails is the next FETCH.
        x.put(0, Words.j(0, 1048572));
        x.set(32, 0);
        Due.be("go", x.go(1), 0);
        Due.be("PC", x.board(32), 1048572);
        Due.be("go", x.go(1), 1);
        x.put(0, Words.j(0, -1048576));
        x.set(32, 0);
        Due.be("go", x.go(2), 1);
        Due.be("PC", x.board(32), -1048576);
        // d is the register that told the jump.
        x.put(0, Words.i(0x67, 6, 0, 6, -1));
        x.set(6, 102);
        x.set(32, 0);
        Due.be("go", x.go(1), 0);
        Due.be("PC", x.board(32), 100);
        Due.be("link", x.board(6), 4);
        x.put(16380, 0x13);
        x.set(32, 16380);
        Due.be("go", x.go(2), 1);
        Due.be("PC", x.board(32), 16384);
    }

    private static void memory() {
        CompiledHouse x = new CompiledHouse();
        x.set(1, 0x80);
        x.set(2, 0x818283f4);
        x.put(0, Words.s(2, 1, 2, 4));
        x.put(4, Words.i(0x03, 3, 0, 1, 4));
        x.put(8, Words.i(0x03, 4, 4, 1, 7));
        x.put(12, Words.i(0x03, 5, 1, 1, 6));
        x.put(16, Words.i(0x03, 6, 5, 1, 4));
        x.put(20, Words.i(0x03, 7, 2, 1, 4));
        x.put(24, Words.s(0, 1, 2, 9));
        x.put(28, Words.s(1, 1, 2, 10));
        x.put(32, Words.i(0x03, 8, 0, 1, 7));
        Due.be("go", x.go(9), 0);
        Due.be("word", x.board(100 + 33), 0x818283f4);
        Due.be("lb", x.board(3), 0xfffffff4);
        Due.be("lbu", x.board(4), 0x81);
        Due.be("lh", x.board(5), 0xffff8182);
        Due.be("lhu", x.board(6), 0x83f4);
        Due.be("lw", x.board(7), 0x818283f4);
        Due.be("bytes", x.board(100 + 34), 0x83f4f400);
        Due.be("lb", x.board(8), 0xffffff81);
        // The BOARD may change its own words.
        x.set(32, 64);
        x.set(9, 0x73);
        x.put(64, Words.s(2, 0, 9, 68));
        x.put(68, 0);
        Due.be("go", x.go(5), 6);
    }

    /** Words by chance, against a board of bytes that counts with great numbers. */
    private static void byChance(Random random, String what) {
        CompiledHouse x = new CompiledHouse();
        byte[] bytes = new byte[16384];
        long[] registers = new long[33];
        long[] edges = {0, 1, 2, 4, 0xffffffffL, 0x80000000L, 0x7fffffffL, 16380, 16383, 0xfffffff8L, 3};
        for (int k = 1; k < 32; k++) {
            registers[k] = random.nextBoolean() ? edges[random.nextInt(edges.length)] : random.nextInt() & 0xffffffffL;
            x.set(k, (int) registers[k]);
        }
        for (int k = 0; k < 60; k++) {
            int word = Words.byChance(random);
            x.put(k * 4, word);
            OtherBoard.store(bytes, k * 4, word, 4);
        }
        for (int step = 0; step < 60; step++) {
            int why = OtherBoard.step(bytes, registers);
            Due.be(what + "step " + step, x.go(1), why);
            Due.be(what + "PC", x.board(32), (int) registers[32]);
            for (int k = 0; k < 32; k++) {
                Due.be(what + "register " + k, x.board(k), (int) registers[k]);
            }
            if (why != 0 && why < 6) {
                int pc = (step + 1) % 60 * 4;
                registers[32] = pc;
                x.set(32, pc);
            }
        }
        for (int k = 0; k < 4096; k++) {
            Due.be(what + "word " + k, x.board(100 + k), (int) OtherBoard.load(bytes, k * 4, 4));
        }
    }
}
