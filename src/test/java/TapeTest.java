/** Promises 1 to 3: a new object, feed, end. */
public final class TapeTest {
    public static void main(String[] args) {
        aNewObject();
        feed();
        end();
        Due.done();
    }

    private static void aNewObject() {
        CompiledHouse x = new CompiledHouse();
        Due.be("NONE", CompiledHouse.NONE, -1);
        Due.be("tape", x.end(1), -1);
        Due.be("tape", x.end(0), 0);
        for (int what = -1; what < 7; what++) {
            Due.be("look", x.look(what, 0), -1);
        }
        Due.be("give", x.give(1), -1);
        Due.be("begin", x.begin(100), false);
        Due.be("run", x.run(1), -1);
        Due.be("output", x.output(0), 0);
        Due.be("global", x.global(0), 0);
        int[] world = {0, 0, 0, 0, 0, -1, 0, 0, -1};
        for (int what = 0; what < world.length; what++) {
            Due.be("world " + what, x.world(what), world[what]);
        }
        for (int i = 0; i < 34; i++) {
            Due.be("board " + i, x.board(i), 0);
        }
        for (int i = 100; i < 4196; i++) {
            Due.be("board " + i, x.board(i), 0);
        }
        Due.be("read of nothing", x.read(), 12);
    }

    private static void feed() {
        CompiledHouse x = new CompiledHouse();
        for (int n = 1; n <= 200; n++) {
            Due.be("feed", x.feed(0x20202020, 0x20202020, 0x20202020, 0x20202020, 0x20202020), 20 * n);
        }
        Due.be("feed beyond 4,000", x.feed(1, 2, 3, 4, 5), -1);
        Due.be("what it has", x.end(4001), -1);
        Due.be("what it has", x.end(3981), 3981);
        Due.be("feed beyond 4,000", x.feed(1, 2, 3, 4, 5), -1);
        Due.be("what it has", x.end(3980), 3980);
        Due.be("feed up to 4,000", x.feed(0x20202020, 0x20202020, 0x20202020, 0x20202020, 0x20202020), 4000);
        Due.be("read of blanks", x.read(), 4000 * 16 + 12);
        Due.be("the tape is empty then", x.end(1), -1);
        // "int main(){put(7);}\n", the highest byte first.
        Due.be("feed", x.feed(0x696e7420, 0x6d61696e, 0x28297b70, 0x75742837, 0x293b7d0a), 20);
        Due.be("read", x.read(), 0);
        Due.be("begin", x.begin(4), true);
        Due.be("run", x.run(0), 3);
        Due.be("output", x.output(0), 7);
    }

    private static void end() {
        CompiledHouse x = new CompiledHouse();
        Due.be("feed", x.feed(0x696e7420, 0x6d61696e, 0x28297b7d, 0x40404040, 0x40404040), 20);
        Due.be("end below 0", x.end(-1), -1);
        Due.be("end beyond", x.end(21), -1);
        Due.be("end of all", x.end(20), 20);
        Due.be("end of some", x.end(12), 12);
        Due.be("what is cut is gone", x.end(13), -1);
        Due.be("read", x.read(), 0);
        Due.be("main's place", x.look(2, 0), 4);
        Due.feed(x, "int main(){}@");
        Due.be("end of 0", x.end(0), 0);
        Due.feed(x, "void main(){}");
        Due.be("read", x.read(), 0);
        Due.be("void", x.look(5, 0), 0);
        // What is fed behind an end comes right behind what counts.
        Due.feed(x, "int main(){put(4@");
        Due.be("end", x.end(16), 16);
        x.feed(0x32293b7d, 0x20202020, 0x20202020, 0x20202020, 0x20202020);
        Due.be("read", x.read(), 0);
        x.begin(100);
        Due.be("run", x.run(1), 3);
        Due.be("output", x.output(0), 42);
    }
}
