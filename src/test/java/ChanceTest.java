import java.util.ArrayList;
import java.util.List;
import java.util.Random;

/** Texts made by chance: their faults, shapes and runs must be those of the oracle (promises 4 to 11). */
public final class ChanceTest {
    private static int faulty = 0;
    private static int right = 0;
    private static final int[] KINDS = new int[13];
    private static final int[] HOWS = new int[7];

    public static void main(String[] args) throws InterruptedException {
        int texts = args.length > 0 ? Integer.parseInt(args[0]) : 8000;
        long first = args.length > 1 ? Long.parseLong(args[1]) : 1;
        // The oracle does deep runs by deep calls.
        Thread thread = new Thread(null, () -> all(texts, first), "oracle", 1L << 30);
        thread.start();
        thread.join();
        System.out.println(right + " right texts, " + faulty + " with faults");
        for (int kind = 1; kind <= 12; kind++) {
            Due.be("texts with fault " + kind + " are among them", KINDS[kind] > 0 || texts < 8000, true);
        }
        for (int how = 1; how <= 6; how++) {
            Due.be("runs that are " + how + " are among them", HOWS[how] > 0, true);
        }
        if (args.length > 0) {
            System.out.println(java.util.Arrays.toString(KINDS) + java.util.Arrays.toString(HOWS));
        }
        Due.done();
    }

    private static void all(int texts, long first) {
        CompiledHouse house = new CompiledHouse();
        for (long seed = first; seed < first + texts && Due.wrong() < 20; seed++) {
            TextMaker maker = new TextMaker(seed);
            Random random = new Random(~seed);
            int how = (int) (seed % 7);
            List<String> tokens = how < 5 ? maker.program() : new WildMaker(seed).program();
            if (how == 3 || how == 5) {
                maker.spoil(tokens, 1 + random.nextInt(3));
            } else if (how == 4) {
                maker.mistake(tokens, 1 + random.nextInt(3));
            }
            String text = maker.joined(tokens);
            if (text.length() <= 4000) {
                one(house, text, random, "seed " + seed);
            }
        }
    }

    private static void one(CompiledHouse house, String text, Random random, String what) {
        Oracle oracle = new Oracle(text);
        Due.be(what + ": read", Due.read(house, text), oracle.fault);
        if (oracle.fault != 0) {
            faulty++;
            KINDS[oracle.fault % 16]++;
            Due.be(what + ": look", house.look(0, 0), -1);
            Due.be(what + ": begin", house.begin(100), false);
            return;
        }
        right++;
        shape(house, oracle, what);
        List<Integer> input = new ArrayList<>();
        for (int n = 0; n < 2; n++) {
            input = run(house, oracle, random, input, what + ", run " + n);
        }
    }

    private static void shape(CompiledHouse house, Oracle oracle, String what) {
        Due.be(what + ": functions", house.look(0, 0), oracle.functions.size());
        Due.be(what + ": words", house.look(1, 0), oracle.words);
        for (int i = 0; i < oracle.functions.size(); i++) {
            Oracle.Function f = oracle.functions.get(i);
            Due.be(what + ": place", house.look(2, i), f.place);
            Due.be(what + ": formals", house.look(3, i), f.formals.size());
            Due.be(what + ": measure", house.look(4, i), f.measure());
            Due.be(what + ": result", house.look(5, i), f.gives ? 1 : 0);
        }
    }

    /** A run that goes on some times, with the INPUT that waits: what waits of it then. */
    private static List<Integer> run(CompiledHouse house, Oracle oracle, Random random, List<Integer> input, String what) {
        int limit = random.nextInt(3) == 0 ? 4 + random.nextInt(60) : 4 + random.nextInt(1997);
        Due.be(what + ": begin", house.begin(limit), true);
        Oracle.Run run = oracle.new Run(limit, 0, input);
        for (int step = 0; step < 12; step++) {
            for (int n = random.nextInt(3); n > 0; n--) {
                int number = random.nextInt(20) - 5;
                input.add(number);
                Due.be(what + ": give", house.give(number), input.size() - run.used);
            }
            int turns = random.nextInt(3) == 0 ? random.nextInt(1001) : random.nextInt(20);
            if (run.how < 3) {
                run = oracle.new Run(limit, run.taken + turns, input).go();
            }
            String when = what + ", step " + step + ": ";
            Due.be(when + "run", house.run(turns), run.how);
            compare(house, oracle, run, limit, input, when);
        }
        HOWS[run.how]++;
        return new ArrayList<>(input.subList(run.used, input.size()));
    }

    private static void compare(CompiledHouse house, Oracle oracle, Oracle.Run run, int limit, List<Integer> input, String when) {
        Due.be(when + "how", house.world(0), run.how);
        Due.be(when + "turns", house.world(1), run.taken);
        Due.be(when + "outputs", house.world(2), run.count);
        Due.be(when + "waiting", house.world(3), input.size() - run.used);
        Due.be(when + "value", house.world(4), run.value);
        Due.be(when + "place", house.world(5), run.place);
        Due.be(when + "depth", house.world(6), run.depth);
        Due.be(when + "limit", house.world(7), limit);
        for (int i = 0; i <= run.output.size(); i++) {
            Due.be(when + "output " + i, house.output(i), i < run.output.size() ? run.output.get(i) : 0);
        }
        for (int i = 0; i <= oracle.words; i++) {
            Due.be(when + "global " + i, house.global(i), run.word(i));
        }
    }
}
