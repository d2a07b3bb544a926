import java.util.function.Consumer;
import java.util.function.Supplier;

/** What can be seen of a house without changing it, in so few calls that an object's 512 leave room for more. */
final class Seen {
    private Seen() {
    }

    private static int[] of(CompiledHouse x) {
        int[] seen = new int[200];
        int n = 0;
        for (int what = 0; what < 8; what++) {
            seen[n++] = x.world(what);
        }
        for (int what = 0; what < 6; what++) {
            seen[n++] = x.look(what, 0);
            seen[n++] = x.look(what, 1);
        }
        for (int i = 0; i < 8; i++) {
            seen[n++] = x.output(i);
            seen[n++] = x.global(i);
        }
        for (int i = 0; i < 34; i++) {
            seen[n++] = x.board(i);
        }
        for (int i = 100; i < 116; i++) {
            seen[n++] = x.board(i);
        }
        seen[n++] = x.board(4194);
        seen[n++] = x.board(4195);
        return seen;
    }

    static void same(String what, CompiledHouse x, CompiledHouse twin) {
        int[] ofX = of(x);
        int[] ofTwin = of(twin);
        for (int i = 0; i < ofX.length; i++) {
            Due.be(what + ": sight " + i, ofX[i], ofTwin[i]);
        }
    }

    /** A house that had the calls is like one that had them not, at once and when both go on. */
    static void unchanged(String what, Supplier<CompiledHouse> maker, Consumer<CompiledHouse> calls) {
        CompiledHouse x = maker.get();
        CompiledHouse twin = maker.get();
        calls.accept(x);
        same(what, x, twin);
        for (CompiledHouse house : new CompiledHouse[] {x, twin}) {
            house.run(3);
            house.give(77);
            house.run(1000);
            house.go(5);
        }
        same(what + ", later", x, twin);
        Due.be(what + ": begin", x.begin(60), twin.begin(60));
        Due.be(what + ": run", x.run(4), twin.run(4));
        Due.be(what + ": the tape", x.read(), twin.read());
        same(what + ", at last", x, twin);
    }
}
