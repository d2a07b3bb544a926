/** The edges of promises 1 to 3, and of all promises the calls that are refused: they change nothing. */
public final class CallEdgesTest {
    private static final int BLANKS = 0x20202020;
    private static final int LEAST = Integer.MIN_VALUE;
    private static final int MOST = Integer.MAX_VALUE;
    private static final String TEXT = "int g=5;byte b[3]={1,2,3};void f(int n){put(n);}int main(){while(g){g--;b[0]++;f(get());}halt(9);}";

    public static void main(String[] args) {
        aNewObjectHasAnEmptyTape();
        aNewObjectHasNoProgram();
        aNewObjectHasABoardOfZeros();
        objectsAreApart();
        feedTakesTwentyBytesTheHighestFirst();
        feedCountsUpTo4000();
        feedBeyond4000();
        endKeepsTheFirstBytes();
        endRefused();
        whatIsCutIsNotLookedAt();
        refusedWithoutAProgram();
        refusedWithAProgram();
        refusedInARun();
        theLastOf512Calls();
        Due.done();
    }

    private static int blank(CompiledHouse x) {
        return x.feed(BLANKS, BLANKS, BLANKS, BLANKS, BLANKS);
    }

    // Promise 1: an empty tape, no program; the BOARD as at first.

    private static void aNewObjectHasAnEmptyTape() {
        Due.be("end of 0", new CompiledHouse().end(0), 0);
        Due.be("end of 1", new CompiledHouse().end(1), -1);
        Due.be("the first feed", blank(new CompiledHouse()), 20);
        Due.be("read", new CompiledHouse().read(), 12);
    }

    private static void aNewObjectHasNoProgram() {
        for (int what = 0; what < 6; what++) {
            Due.be("look " + what, new CompiledHouse().look(what, 0), -1);
        }
        Due.be("give", new CompiledHouse().give(0), -1);
        Due.be("begin", new CompiledHouse().begin(4), false);
        Due.be("begin", new CompiledHouse().begin(2000), false);
        Due.be("run", new CompiledHouse().run(0), -1);
        Due.be("run", new CompiledHouse().run(1000), -1);
        Due.be("output", new CompiledHouse().output(0), 0);
        Due.be("global", new CompiledHouse().global(0), 0);
        int[] world = {0, 0, 0, 0, 0, -1, 0, 0};
        for (int what = 0; what < 8; what++) {
            Due.be("world " + what, new CompiledHouse().world(what), world[what]);
        }
    }

    private static void aNewObjectHasABoardOfZeros() {
        CompiledHouse x = new CompiledHouse();
        for (int i = 0; i < 34; i++) {
            Due.be("board " + i, x.board(i), 0);
        }
        for (int k = 0; k < 4096; k++) {
            if (k % 400 == 0) {
                x = new CompiledHouse();
            }
            Due.be("word " + k, x.board(100 + k), 0);
        }
        Due.be("a word of zeros is none", new CompiledHouse().go(1), 2);
    }

    private static void objectsAreApart() {
        CompiledHouse x = Due.house(TEXT);
        CompiledHouse y = new CompiledHouse();
        x.begin(100);
        x.give(3);
        x.run(10);
        x.put(0, 0x13);
        x.set(5, 5);
        blank(x);
        Seen.same("a new object beside a used one", y, new CompiledHouse());
        Due.be("its tape", y.end(1), -1);
        Due.be("read", Due.read(y, "int main(){put(8);}"), 0);
        y.begin(4);
        y.run(0);
        Due.be("the used one's functions", x.look(0, 0), 2);
        Due.be("the used one's output", x.output(0), 3);
        Due.be("the used one's tape", x.end(20), 20);
    }

    // Promise 2.

    private static void feedTakesTwentyBytesTheHighestFirst() {
        for (int k = 0; k < 20; k++) {
            int[] words = {BLANKS, BLANKS, BLANKS, BLANKS, BLANKS};
            for (int b : new int[] {'$', 0, 255, 128, 127}) {
                int shift = 24 - k % 4 * 8;
                words[k / 4] = BLANKS & ~(255 << shift) | b << shift;
                CompiledHouse x = new CompiledHouse();
                Due.be("feed", x.feed(words[0], words[1], words[2], words[3], words[4]), 20);
                Due.be("byte " + b + " at " + k, x.read(), k * 16 + 1);
                x = new CompiledHouse();
                blank(x);
                Due.be("feed", x.feed(words[0], words[1], words[2], words[3], words[4]), 40);
                Due.be("byte " + b + " at 20 and " + k, x.read(), (20 + k) * 16 + 1);
            }
        }
    }

    private static void feedCountsUpTo4000() {
        CompiledHouse x = new CompiledHouse();
        for (int n = 1; n <= 200; n++) {
            Due.be("feed " + n, blank(x), 20 * n);
        }
        Due.be("feed 201", blank(x), -1);
        Due.be("all of it counts", x.end(4000), 4000);
        Due.be("read", x.read(), 4000 * 16 + 12);
        Due.be("the tape is empty then", blank(x), 20);
    }

    private static void feedBeyond4000() {
        String main = "int main(){put(6);}";
        for (int had = 3978; had <= 4000; had++) {
            CompiledHouse x = new CompiledHouse();
            for (int n = 0; n < 200; n++) {
                blank(x);
            }
            // The text ends with main, so that no byte of it may change.
            Due.be("end", x.end(had - main.length() - (had - main.length()) % 20), had - main.length() - (had - main.length()) % 20);
            String tail = " ".repeat((had - main.length()) % 20) + main;
            int start = had - tail.length();
            Due.feed(x, start, tail);
            Due.be("had", x.end(had), had);
            Due.be("one more is not there", x.end(had + 1), -1);
            int due = had <= 3980 ? had + 20 : -1;
            Due.be("feed behind " + had, x.feed(-1, -1, -1, -1, -1), due);
            Due.be("feed behind " + had, x.feed(-1, -1, -1, -1, -1), -1);
            if (due != -1) {
                Due.be("what came is no token", x.end(had + 1), had + 1);
                Due.be("read", x.read(), had * 16 + 1);
                continue;
            }
            Due.be("nothing came", x.end(had + 1), -1);
            Due.be("read", x.read(), 0);
            Due.be("main's place", x.look(2, 0), had - main.length() + 4);
            x.begin(4);
            x.run(0);
            Due.be("output", x.output(0), 6);
        }
    }

    // Promise 3.

    private static void endKeepsTheFirstBytes() {
        for (int n = 0; n <= 20; n++) {
            CompiledHouse x = new CompiledHouse();
            // Twelve bytes of main, then bytes that no token begins with.
            x.feed(0x696e7420, 0x6d61696e, 0x28297b7d, 0x40404040, 0x40404040);
            Due.be("end " + n, x.end(n), n);
            Due.be("end " + n + " again", x.end(n), n);
            Due.be("one more is gone", x.end(n + 1), -1);
            int due = n == 12 ? 0 : n > 12 ? 12 * 16 + 1 : n == 0 ? 12 : n < 4 ? (n == 3 ? 3 * 16 + 2 : 2) : n * 16 + 2;
            Due.be("read of " + n, x.read(), due);
        }
        CompiledHouse x = new CompiledHouse();
        for (int n = 0; n < 200; n++) {
            blank(x);
        }
        Due.be("end", x.end(3999), 3999);
        Due.be("end", x.end(4000), -1);
        Due.be("end", x.end(0), 0);
        Due.be("end", x.end(1), -1);
        Due.be("feed", blank(x), 20);
    }

    private static void endRefused() {
        for (int had = 0; had <= 40; had += 20) {
            for (int n : new int[] {-1, -20, LEAST, had + 1, had + 20, 4000, 4001, MOST}) {
                CompiledHouse x = new CompiledHouse();
                for (int k = 0; k < had; k += 20) {
                    blank(x);
                }
                Due.be("end " + n + " of " + had, x.end(n), -1);
                Due.be("nothing changed", x.end(had), had);
                Due.be("read", x.read(), had * 16 + 12);
            }
        }
    }

    private static void whatIsCutIsNotLookedAt() {
        String[] texts = {"int main(){}/* *|/", "int main(){}/|*", "int main(){}//|\n$", "int mai|n(){}", "int main(){}|;", "int main(){int a;a>|>=1;}",
            "int main(){put(0x|1);}", "int main(){put(12|a);}", "int a12345678901234|56;", "int a123456789012345|6;"};
        int[] due = {12 * 16 + 1, 12 * 16 + 2, 0, 7 * 16 + 2, 0, 18 * 16 + 2, 15 * 16 + 1, 17 * 16 + 2, 19 * 16 + 2, 20 * 16 + 2};
        for (int k = 0; k < texts.length; k++) {
            int cut = texts[k].indexOf('|');
            CompiledHouse x = new CompiledHouse();
            Due.feed(x, texts[k].replace("|", ""));
            Due.be("end", x.end(cut), cut);
            Due.be("read of " + texts[k], x.read(), due[k]);
        }
    }

    // Refused calls.

    private static void refusedWithoutAProgram() {
        Seen.unchanged("without a program", CompiledHouse::new, CallEdgesTest::askAmiss);
        Seen.unchanged("without a program", CompiledHouse::new, x -> {
            Due.be("give", x.give(3), -1);
            Due.be("begin", x.begin(100), false);
            Due.be("run", x.run(5), -1);
        });
        Seen.unchanged("behind a fault", () -> {
            CompiledHouse x = Due.house(TEXT);
            Due.be("read", Due.read(x, "$"), 1);
            return x;
        }, x -> {
            Due.be("give", x.give(3), -1);
            Due.be("begin", x.begin(100), false);
            Due.be("run", x.run(5), -1);
            Due.be("look", x.look(0, 0), -1);
        });
    }

    private static void refusedWithAProgram() {
        Seen.unchanged("with a program", () -> Due.house(TEXT), CallEdgesTest::askAmiss);
        Seen.unchanged("with a program", () -> Due.house(TEXT), x -> Due.be("run without a run", x.run(5), -1));
        Seen.unchanged("with numbers that wait", () -> {
            CompiledHouse x = new CompiledHouse();
            Due.read(x, "int main(){int s;for(int i=0;i<101;i++)s=s*3+get();put(s);}");
            for (int n = 0; n < 100; n++) {
                x.give(n);
            }
            return x;
        }, CallEdgesTest::askAmiss);
    }

    private static void refusedInARun() {
        for (int turns = 0; turns < 14; turns++) {
            for (int given = 0; given < 6; given += 5) {
                int most = turns;
                int numbers = given;
                Seen.unchanged("in a run of " + turns + " turns", () -> {
                    CompiledHouse x = Due.house(TEXT);
                    for (int n = 0; n < numbers; n++) {
                        x.give(n * 3);
                    }
                    x.begin(9);
                    x.run(most);
                    Due.feed(x, "int main(){put(1);}");
                    return x;
                }, CallEdgesTest::askAmiss);
            }
        }
    }

    /** Calls whose numbers are wrong in any state. */
    private static void askAmiss(CompiledHouse x) {
        for (int n : new int[] {-1, LEAST, 4001, MOST}) {
            Due.be("end " + n, x.end(n), -1);
        }
        for (int limit : new int[] {3, 0, -1, LEAST, 2001, MOST}) {
            Due.be("begin " + limit, x.begin(limit), false);
        }
        for (int turns : new int[] {-1, LEAST, 1001, MOST}) {
            Due.be("run " + turns, x.run(turns), -1);
        }
        for (int address : new int[] {-4, LEAST, 1, 2, 3, 16381, 16384, MOST}) {
            Due.be("put " + address, x.put(address, 0x13), false);
        }
        for (int register : new int[] {-1, LEAST, 0, 33, MOST}) {
            Due.be("set " + register, x.set(register, 4), false);
        }
        for (int n : new int[] {0, -1, LEAST, 1001, MOST}) {
            Due.be("go " + n, x.go(n), -1);
        }
        for (int i : new int[] {-1, LEAST, 34, 99, 4196, MOST}) {
            Due.be("board " + i, x.board(i), -1);
        }
        for (int what : new int[] {-1, LEAST, 6, MOST}) {
            Due.be("look " + what, x.look(what, 0), -1);
        }
        for (int what : new int[] {-1, LEAST, 8, MOST}) {
            Due.be("world " + what, x.world(what), -1);
        }
        for (int i : new int[] {-1, LEAST, 2000, MOST}) {
            Due.be("output " + i, x.output(i), 0);
            Due.be("global " + i, x.global(i), 0);
        }
    }

    /** "An object is used for at most 512 calls after it has been made": the 512th is answered as the first. */
    private static void theLastOf512Calls() {
        CompiledHouse x = new CompiledHouse();
        String text = "int main(){while(1)put(get());}";
        Due.be("calls for the text", text.length() > 20 && text.length() <= 40, true);
        Due.feed(x, text);
        Due.be("read", x.read(), 0);
        Due.be("begin", x.begin(4), true);
        int calls = 5;
        int n = 0;
        for (; calls + 3 <= 512; calls += 3) {
            n++;
            Due.be("give", x.give(n), 1);
            Due.be("run", x.run(2), 2);
            Due.be("output", x.output(n - 1), n);
        }
        for (; calls < 512; calls++) {
            Due.be("the last", x.world(2), n);
        }
        CompiledHouse y = new CompiledHouse();
        y.put(0, Words.i(0x13, 1, 0, 1, 1));
        y.put(4, Words.j(0, -4));
        for (int k = 1; k <= 509; k++) {
            Due.be("go", y.go(1000), 0);
        }
        Due.be("words", y.board(33), 509000);
        CompiledHouse z = Due.house("int main(){while(1);}");
        z.begin(4);
        for (int k = 1; k <= 505; k++) {
            Due.be("run", z.run(1000), 1);
        }
        Due.be("turns", z.world(1), 505000);
    }
}
