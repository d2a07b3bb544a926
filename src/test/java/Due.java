/** What the tests share: feeding a text, comparing answers, and the exit code. */
final class Due {
    private static int compared = 0;
    private static int wrong = 0;

    private Due() {
    }

    static void be(String what, long got, long want) {
        compared++;
        if (got != want) {
            wrong++;
            if (wrong <= 50) {
                System.out.println(what + " answered " + got + ", due is " + want);
            }
        }
    }

    static void be(String what, boolean got, boolean want) {
        be(what, got ? 1 : 0, want ? 1 : 0);
    }

    static int wrong() {
        return wrong;
    }

    /** Feeds the text, padded with zeros, and cuts the padding. */
    static void feed(CompiledHouse house, String text) {
        feed(house, 0, text);
    }

    /** Feeds the text behind the first bytes of the tape, which has them all. */
    static void feed(CompiledHouse house, int behind, String text) {
        for (int i = 0; i < text.length(); i += 20) {
            house.feed(word(text, i), word(text, i + 4), word(text, i + 8), word(text, i + 12), word(text, i + 16));
        }
        house.end(behind + text.length());
    }

    private static int word(String text, int at) {
        int word = 0;
        for (int i = at; i < at + 4; i++) {
            word = word << 8 | (i < text.length() ? text.charAt(i) & 255 : 0);
        }
        return word;
    }

    static int read(CompiledHouse house, String text) {
        feed(house, text);
        return house.read();
    }

    /** A new house with this program; it must have no fault. */
    static CompiledHouse house(String text) {
        CompiledHouse house = new CompiledHouse();
        be("read of " + text, read(house, text), 0);
        return house;
    }

    /** A text with @ ahead of the token that bears the fault. */
    static void fault(String marked, int kind) {
        int place = marked.indexOf('@');
        String text = marked.substring(0, place) + marked.substring(place + 1);
        be("read of " + marked, read(new CompiledHouse(), text), place * 16L + kind);
    }

    /** A text with a fault of this kind at this place; kind 0 is none. */
    static void fault(String text, int kind, int place) {
        be("read of " + text, read(new CompiledHouse(), text), place * 16L + kind);
    }

    static void fine(String text) {
        be("read of " + text, read(new CompiledHouse(), text), 0);
    }

    /** Runs a text to its end with these numbers of INPUT: its OUTPUT must be as told. */
    static void output(String text, int[] input, long... numbers) {
        CompiledHouse house = house(text);
        for (int number : input) {
            house.give(number);
        }
        house.begin(2000);
        be("run of " + text, house.run(1000), 3);
        be("count of output of " + text, house.world(2), numbers.length);
        for (int i = 0; i < numbers.length; i++) {
            be("output " + i + " of " + text, house.output(i), (int) numbers[i]);
        }
    }

    static String times(String text, int n) {
        return text.repeat(n);
    }

    static void done() {
        System.out.println(compared + " answers compared, " + wrong + " wrong");
        if (wrong != 0 || compared == 0) {
            System.exit(1);
        }
    }
}
