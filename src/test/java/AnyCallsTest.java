import java.util.List;
import java.util.Random;

/** Objects that are asked 512 times, whatever comes next and with wrong numbers, too, beside another house. */
public final class AnyCallsTest {
    private static final int MOST_CALLS = 512;
    private static final int[] EDGES = {
        -2147483648, -4, -1, 0, 1, 2, 3, 4, 5, 6, 7, 8, 31, 32, 33, 34, 99, 100, 499, 500, 501, 999, 1000, 1001,
        1999, 2000, 2001, 4000, 4001, 4195, 4196, 16380, 16381, 16384, 2147483647};

    private final CompiledHouse house = new CompiledHouse();
    private final OtherHouse other = new OtherHouse();
    private final Random random;
    private final String what;
    private int calls;

    private AnyCallsTest(long seed) {
        random = new Random(seed * 77);
        what = "seed " + seed + ", call ";
    }

    public static void main(String[] args) throws InterruptedException {
        int objects = args.length > 0 ? Integer.parseInt(args[0]) : 600;
        long first = args.length > 1 ? Long.parseLong(args[1]) : 1;
        // The oracle does deep runs by deep calls.
        Thread thread = new Thread(null, () -> all(objects, first), "oracle", 1L << 30);
        thread.start();
        thread.join();
        Due.done();
    }

    private static void all(int objects, long first) {
        for (long seed = first; seed < first + objects && Due.wrong() < 20; seed++) {
            AnyCallsTest test = new AnyCallsTest(seed);
            while (test.calls < MOST_CALLS) {
                test.some();
            }
        }
    }

    private void due(String call, long got, long want) {
        calls++;
        Due.be(what + calls + ": " + call, got, want);
    }

    private void due(String call, boolean got, boolean want) {
        due(call, got ? 1 : 0, want ? 1 : 0);
    }

    private int edge() {
        int number = EDGES[random.nextInt(EDGES.length)];
        return random.nextInt(8) == 0 ? random.nextInt() : number;
    }

    private int upTo(int most) {
        return random.nextInt(10) == 0 ? edge() : random.nextInt(most + 1);
    }

    private void some() {
        int kind = random.nextInt(100);
        // A text is soon come by where there is no program, so that there is mostly one.
        if (kind < (other.look(0, 0) < 0 ? 30 : 3)) {
            text();
        } else if (kind < 34) {
            if (kind > 29) {
                words();
            }
        } else if (kind < 75) {
            aboutRuns(random.nextInt(20));
        } else {
            aboutTheRest(random.nextInt(20));
        }
    }

    /** A text by chance, fed whole; sometimes it is left on the tape. */
    private void text() {
        TextMaker maker = new TextMaker(random.nextLong());
        List<String> tokens = random.nextInt(8) > 0 ? maker.program() : new WildMaker(random.nextLong()).program();
        if (random.nextInt(8) == 0) {
            maker.spoil(tokens, 1);
        }
        String text = maker.joined(tokens);
        if (text.length() > 1500) {
            return;
        }
        if (random.nextInt(5) > 0) {
            end(0);
        }
        for (int i = 0; i < text.length(); i += 20) {
            feed(four(text, i), four(text, i + 4), four(text, i + 8), four(text, i + 12), four(text, i + 16));
        }
        end(text.length());
        if (random.nextInt(6) > 0) {
            due("read", house.read(), other.read());
        }
        if (random.nextInt(3) > 0) {
            due("begin", house.begin(300), other.begin(300));
        }
    }

    private static int four(String text, int at) {
        int word = 0;
        for (int i = at; i < at + 4; i++) {
            word = word << 8 | (i < text.length() ? text.charAt(i) & 255 : 32);
        }
        return word;
    }

    private void feed(int a, int b, int c, int d, int e) {
        due("feed", house.feed(a, b, c, d, e), other.feed(a, b, c, d, e));
    }

    private void end(int n) {
        due("end " + n, house.end(n), other.end(n));
    }

    private void words() {
        int from = random.nextInt(30) * 4;
        for (int i = random.nextInt(12); i >= 0; i--) {
            int word = Words.byChance(random);
            due("put", house.put(from + 4 * i, word), other.put(from + 4 * i, word));
        }
        due("set", house.set(32, from), other.set(32, from));
    }

    private void aboutRuns(int kind) {
        int n = kind < 5 ? upTo(30) : kind == 5 ? upTo(1000) : upTo(12);
        if (kind < 6) {
            due("run " + n, house.run(n), other.run(n));
        } else if (kind < 9) {
            due("give " + n, house.give(n), other.give(n));
        } else if (kind == 9) {
            int limit = random.nextInt(3) == 0 ? edge() : 4 + random.nextInt(100);
            due("begin " + limit, house.begin(limit), other.begin(limit));
        } else if (kind < 13) {
            due("output " + n, house.output(n), other.output(n));
        } else if (kind < 16) {
            due("global " + n, house.global(n), other.global(n));
        } else {
            int asked = upTo(7);
            due("world " + asked, house.world(asked), other.world(asked));
        }
    }

    private void aboutTheRest(int kind) {
        int n = edge();
        if (kind < 4) {
            int asked = upTo(5);
            int i = upTo(4);
            due("look " + asked + " " + i, house.look(asked, i), other.look(asked, i));
        } else if (kind == 4) {
            feed(random.nextInt(), 0x20202020, edge(), 0x0a0a0a0a, n);
        } else if (kind == 5) {
            end(n);
        } else if (kind == 6) {
            if (random.nextInt(4) == 0) {
                due("read", house.read(), other.read());
            }
        } else if (kind < 9) {
            int address = upTo(30) * 4;
            due("put " + address, house.put(address, n), other.put(address, n));
        } else if (kind == 9) {
            due("put " + n, house.put(n, 5), other.put(n, 5));
        } else if (kind < 12) {
            int register = upTo(32);
            due("set " + register, house.set(register, n), other.set(register, n));
        } else if (kind < 16) {
            int words = upTo(12);
            due("go " + words, house.go(words), other.go(words));
        } else {
            int asked = kind == 16 ? upTo(33) : kind == 17 ? 100 + upTo(40) : upTo(33);
            due("board " + asked, house.board(asked), other.board(asked));
        }
    }
}
