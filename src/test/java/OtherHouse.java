import java.util.ArrayList;
import java.util.List;

/** The whole face once more, in another way: texts and runs by the oracle, words by the other board. */
final class OtherHouse {
    private final StringBuilder tape = new StringBuilder();
    private Oracle program;
    private Oracle.Run run;
    private int limit;
    private List<Integer> input = new ArrayList<>();
    private final byte[] memory = new byte[16384];
    private final long[] registers = new long[33];
    private int done;

    int feed(int... numbers) {
        if (tape.length() + 20 > 4000) {
            return -1;
        }
        for (int number : numbers) {
            for (int shift = 24; shift >= 0; shift -= 8) {
                tape.append((char) (number >> shift & 255));
            }
        }
        return tape.length();
    }

    int end(int n) {
        if (n < 0 || n > tape.length()) {
            return -1;
        }
        tape.setLength(n);
        return n;
    }

    int read() {
        Oracle oracle = new Oracle(tape.toString());
        tape.setLength(0);
        program = oracle.fault == 0 ? oracle : null;
        run = null;
        input = new ArrayList<>();
        return oracle.fault;
    }

    int look(int what, int i) {
        if (program == null || what < 0 || what > 5) {
            return -1;
        }
        if (what < 2) {
            return what == 0 ? program.functions.size() : program.words;
        }
        if (i < 0 || i >= program.functions.size()) {
            return -1;
        }
        Oracle.Function f = program.functions.get(i);
        return what == 2 ? f.place : what == 3 ? f.formals.size() : what == 4 ? f.measure() : f.gives ? 1 : 0;
    }

    private int waiting() {
        return input.size() - (run == null ? 0 : run.used);
    }

    int give(int n) {
        if (program == null || waiting() == 500) {
            return -1;
        }
        input.add(n);
        return waiting();
    }

    boolean begin(int newLimit) {
        if (program == null || newLimit < 4 || newLimit > 2000) {
            return false;
        }
        input = new ArrayList<>(input.subList(input.size() - waiting(), input.size()));
        limit = newLimit;
        run = program.new Run(limit, 0, input);
        run.how = 1;
        return true;
    }

    int run(int turns) {
        if (turns < 0 || turns > 1000 || run == null) {
            return -1;
        }
        if (run.how < 3) {
            run = program.new Run(limit, run.taken + turns, input).go();
        }
        return run.how;
    }

    int output(int i) {
        return run == null || i < 0 || i >= run.output.size() ? 0 : run.output.get(i);
    }

    int world(int what) {
        if (what == 3) {
            return waiting();
        }
        if (what < 0 || what > 7 || run == null) {
            return what < 0 || what > 7 || what == 5 ? -1 : 0;
        }
        long[] answers = {run.how, run.taken, run.count, 0, run.value, run.place, run.depth, limit};
        return (int) answers[what];
    }

    int global(int i) {
        if (program == null || i < 0) {
            return 0;
        }
        return (run == null ? program.new Run(4, 0, input) : run).word(i);
    }

    boolean put(int address, int word) {
        if (address < 0 || address > 16380 || address % 4 != 0) {
            return false;
        }
        OtherBoard.store(memory, address, word, 4);
        return true;
    }

    boolean set(int register, int number) {
        if (register < 1 || register > 32) {
            return false;
        }
        registers[register] = number & 0xffffffffL;
        return true;
    }

    int go(int n) {
        if (n < 1 || n > 1000) {
            return -1;
        }
        int why = 0;
        for (int i = 0; i < n && why == 0; i++) {
            why = OtherBoard.step(memory, registers);
            done += why == 0 || why > 5 ? 1 : 0;
        }
        return why;
    }

    int board(int i) {
        if (i >= 0 && i < 33) {
            return (int) registers[i];
        }
        if (i == 33) {
            return done;
        }
        return i < 100 || i > 4195 ? -1 : (int) OtherBoard.load(memory, (i - 100) * 4, 4);
    }
}
