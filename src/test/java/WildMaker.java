import java.util.ArrayList;
import java.util.List;
import java.util.Random;

/** Makes texts by chance that keep the grammar alone: few NAMEs, used in all ways, so that most have a fault. */
final class WildMaker {
    private static final String[] JOINS = {
        "||", "&&", "|", "^", "&", "==", "!=", "<", "<=", ">", ">=", "<<", ">>", ">>>", "+", "-", "*", "/", "%"};
    private static final String[] CHANGES = {"=", "+=", "-=", "*=", "/=", "%=", "&=", "|=", "^=", "<<=", ">>=", ">>>=", "++", "--"};
    private final Random random;
    private final List<String> out = new ArrayList<>();
    private final String[] names;
    private final int nesting;

    WildMaker(long seed) {
        random = new Random(seed);
        names = random.nextBoolean() ? new String[] {"a", "b", "c", "d", "e"} : new String[] {"a", "b", "c", "d", "e", "g", "h", "main"};
        nesting = random.nextInt(8) == 0 ? 97 : 45;
    }

    private boolean chance(int percent) {
        return random.nextInt(100) < percent;
    }

    private void add(String... tokens) {
        for (String t : tokens) {
            out.add(t);
        }
    }

    private boolean full() {
        return out.size() > 700;
    }

    private String name() {
        return names[random.nextInt(names.length)];
    }

    List<String> program() {
        int n = 1 + random.nextInt(7);
        int main = random.nextInt(n);
        for (int i = 0; i < n; i++) {
            told(i == main);
        }
        return out;
    }

    private void told(boolean main) {
        int how = main ? 9 : random.nextInt(12);
        if (how < 2) {
            add("const", "int", name(), "=");
            e(3);
            add(";");
        } else if (how < 4) {
            add("int", name());
            if (chance(50)) {
                add("=");
                e(3);
            }
            add(";");
        } else if (how < 7) {
            add(chance(50) ? "int" : "byte", name(), "[");
            size();
            add("]");
            if (chance(40)) {
                add("=", "{");
                list(4);
                add("}");
            }
            add(";");
        } else {
            function(main);
        }
    }

    private void size() {
        if (chance(70)) {
            add(new String[] {"1", "2", "3", "4", "9", "50", "100", "499", "500", "501", "0", "200", "201"}[random.nextInt(13)]);
        } else {
            e(2);
        }
    }

    private void list(int most) {
        e(2);
        for (int n = random.nextInt(most); n > 0; n--) {
            add(",");
            e(2);
        }
    }

    private void function(boolean main) {
        add(chance(60) ? "int" : "void", main ? "main" : name(), "(");
        int n = main && chance(95) ? 0 : random.nextInt(chance(90) ? 4 : 7);
        for (int i = 0; i < n; i++) {
            if (i > 0) {
                add(",");
            }
            boolean bytes = chance(20);
            add(bytes ? "byte" : "int", chance(70) ? name() : "p" + i);
            if (bytes || chance(30)) {
                add("[", "]");
            }
        }
        add(")");
        block(0);
    }

    private void block(int depth) {
        add("{");
        for (int n = random.nextInt(5); n > 0 && !full(); n--) {
            statement(depth + 1);
        }
        add("}");
    }

    private void statement(int depth) {
        boolean deeper = depth < 4 || chance(nesting);
        if (full()) {
            deeper = false;
        }
        int how = random.nextInt(deeper ? 20 : 11);
        if (how < 2) {
            add("int", name());
            if (chance(50)) {
                add("=");
                e(2);
            }
            add(";");
        } else if (how == 2) {
            add(chance(50) ? "int" : "byte", name(), "[");
            size();
            add("]", ";");
        } else if (how < 6) {
            simple();
            add(";");
        } else if (how == 6) {
            add(chance(50) ? "break" : "continue", ";");
        } else if (how == 7) {
            add("return");
            if (chance(50)) {
                e(2);
            }
            add(";");
        } else if (how == 8) {
            add(";");
        } else if (how < 11) {
            add(chance(80) ? "put" : "halt", "(");
            e(3);
            add(")", ";");
        } else {
            nested(depth, how);
        }
    }

    private void nested(int depth, int how) {
        if (how < 13) {
            block(depth);
        } else if (how < 16) {
            add("if", "(");
            e(1);
            add(")");
            statement(depth + 1);
            if (chance(50)) {
                add("else");
                statement(depth + 1);
            }
        } else if (how == 16) {
            add("while", "(");
            e(1);
            add(")");
            statement(depth + 1);
        } else if (how == 17) {
            add("do");
            statement(depth + 1);
            add("while", "(");
            e(1);
            add(")", ";");
        } else {
            add("for", "(");
            if (chance(40)) {
                add("int", name(), "=");
                e(1);
            } else if (chance(50)) {
                simple();
            }
            add(";");
            if (chance(60)) {
                e(1);
            }
            add(";");
            if (chance(60)) {
                simple();
            }
            add(")");
            statement(depth + 1);
        }
    }

    private void simple() {
        add(name());
        int how = random.nextInt(4);
        if (how == 0) {
            arguments();
            return;
        }
        if (how == 1) {
            add("[");
            e(1);
            add("]");
        }
        String change = CHANGES[random.nextInt(CHANGES.length)];
        add(change);
        if (!change.equals("++") && !change.equals("--")) {
            e(2);
        }
    }

    private void arguments() {
        add("(");
        if (chance(60)) {
            list(3);
        }
        add(")");
    }

    private void e(int depth) {
        boolean deeper = !full() && (depth > 0 && chance(80) || chance(nesting));
        int how = random.nextInt(deeper ? 12 : 4);
        if (how < 2) {
            add(String.valueOf(random.nextInt(6)));
        } else if (how < 4) {
            add(name());
        } else if (how == 4) {
            add("(");
            e(depth - 1);
            add(")");
        } else if (how == 5) {
            add(name(), "[");
            e(depth - 1);
            add("]");
        } else if (how == 6) {
            add(name());
            arguments();
        } else if (how == 7) {
            e(depth - 1);
            add("?");
            e(depth - 1);
            add(":");
            e(depth - 1);
        } else if (how == 8) {
            add(new String[] {"-", "~", "!"}[random.nextInt(3)]);
            e(depth - 1);
        } else if (how == 9 && chance(40)) {
            add("get", "(", ")");
        } else {
            e(depth - 1);
            add(JOINS[random.nextInt(JOINS.length)]);
            e(depth - 1);
        }
    }
}
