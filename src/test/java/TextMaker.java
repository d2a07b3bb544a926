import java.util.ArrayList;
import java.util.List;
import java.util.Random;

/** Makes texts by chance, from a seed: most of them right, and with changes mostly wrong. */
final class TextMaker {
    private static final String[] JOINS = {
        "||", "&&", "|", "^", "&", "==", "!=", "<", "<=", ">", ">=", "<<", ">>", ">>>", "+", "-", "*", "/", "%"};
    private static final String[] CHANGES = {"=", "=", "=", "+=", "-=", "*=", "/=", "%=", "&=", "|=", "^=", "<<=", ">>=", ">>>="};
    private static final String[] SOUP = {
        "int", "byte", "void", "const", "if", "else", "while", "do", "for", "break", "continue", "return", "put", "get",
        "halt", "(", ")", "[", "]", "{", "}", ",", ";", "?", ":", "=", "+=", ">>>=", "++", "--", "||", "&&", "&", "==",
        "<", ">>", "+", "-", "*", "/", "~", "!", "a", "b", "c", "f", "g", "main", "0", "1", "500", "501", "0x1F", "main",
        "@", "12x", "0x", "abcdefghijklmnopq", "4294967296"};

    /** A NAME that may be used, and how. */
    private record Known(String name, String kind, int size, boolean gives, List<String> formals) {
    }

    private final Random random;
    private List<String> out = new ArrayList<>();
    private final List<Known> known = new ArrayList<>();
    private final List<Known> functions = new ArrayList<>();
    private boolean gives;
    private int current;
    private int loops;
    private int fresh;
    private int localWords;

    TextMaker(long seed) {
        random = new Random(seed);
    }

    private int upTo(int n) {
        return random.nextInt(n);
    }

    private boolean chance(int percent) {
        return random.nextInt(100) < percent;
    }

    private void add(String... tokens) {
        for (String t : tokens) {
            out.add(t);
        }
    }

    List<String> program() {
        int count = upTo(4);
        for (int i = 0; i < count; i++) {
            List<String> formals = new ArrayList<>();
            int n = upTo(5);
            for (int k = 0; k < n; k++) {
                formals.add(chance(60) ? "int" : chance(50) ? "int[]" : "byte[]");
            }
            functions.add(new Known("f" + i, "function", 0, chance(70), formals));
        }
        int main = chance(60) ? 0 : upTo(count + 1);
        functions.add(main, new Known("main", "function", 0, chance(70), List.of()));
        known.addAll(functions);
        for (Known f : functions) {
            for (int n = upTo(4); n > 0; n--) {
                global();
            }
            function(f);
        }
        for (int n = upTo(2); n > 0; n--) {
            global();
        }
        return out;
    }

    private String newName() {
        fresh++;
        return chance(70) || fresh > 50 ? "v" + fresh : String.valueOf((char) ('A' + fresh % 26)) + "_" + fresh;
    }

    private void global() {
        String name = newName();
        int how = upTo(4);
        if (how == 0) {
            add("const", "int", name, "=");
            constant(2);
            add(";");
            known.add(new Known(name, "const", 0, false, null));
        } else if (how == 1) {
            add("int", name);
            if (chance(50)) {
                add("=");
                constant(2);
            }
            add(";");
            known.add(new Known(name, "int", 0, false, null));
        } else {
            String kind = how == 2 ? "int" : "byte";
            int size = 1 + upTo(9);
            add(kind, name, "[");
            constantOf(size);
            add("]");
            if (chance(50)) {
                add("=", "{");
                int n = 1 + upTo(size);
                for (int i = 0; i < n; i++) {
                    if (i > 0) {
                        add(",");
                    }
                    constant(1);
                }
                add("}");
            }
            add(";");
            known.add(new Known(name, kind + "[]", size, false, null));
        }
    }

    private void number() {
        int how = upTo(12);
        if (how < 6) {
            add(String.valueOf(upTo(10)));
        } else if (how < 8) {
            add(String.valueOf(upTo(1000)));
        } else if (how == 8) {
            add("0x" + Integer.toHexString(random.nextInt()));
        } else if (how == 9) {
            add(String.valueOf(random.nextInt() & 0xffffffffL));
        } else {
            add(new String[] {"2147483648", "0xFFFFFFFF", "2147483647", "0", "31", "32", "33", "255", "256", "00"}[upTo(10)]);
        }
    }

    private Known pick(String kind) {
        List<Known> fitting = new ArrayList<>();
        for (int i = known.size() - 1; i >= 0; i--) {
            if (known.get(i).kind.equals(kind)) {
                fitting.add(known.get(i));
            }
        }
        return fitting.isEmpty() ? null : fitting.get(upTo(fitting.size()));
    }

    /** A function, mostly one told later, so that not all runs end in STACK. */
    private Known pickFunction() {
        int first = chance(85) ? Math.min(current + 1, functions.size() - 1) : 0;
        return functions.get(first + upTo(functions.size() - first));
    }

    private void constant(int depth) {
        int how = upTo(depth > 0 ? 8 : 3);
        Known c = pick("const");
        if (how < 2 || how == 2 && c == null) {
            number();
        } else if (how == 2) {
            add(c.name);
        } else if (how == 3) {
            add(new String[] {"-", "~", "!"}[upTo(3)]);
            add("(");
            constant(depth - 1);
            add(")");
        } else if (how == 4) {
            add("(");
            constant(depth - 1);
            add("?");
            constant(depth - 1);
            add(":");
            constant(depth - 1);
            add(")");
        } else {
            constant(depth - 1);
            add(JOINS[upTo(JOINS.length)]);
            constant(depth - 1);
        }
    }

    private void constantOf(int n) {
        if (chance(50)) {
            add(String.valueOf(n));
        } else if (chance(50)) {
            add(String.valueOf(n * 3), "/", "3");
        } else {
            add("1", "?", String.valueOf(n), ":", "0");
        }
    }

    private void function(Known f) {
        add(f.gives ? "int" : "void", f.name, "(");
        int before = known.size();
        for (int i = 0; i < f.formals.size(); i++) {
            if (i > 0) {
                add(",");
            }
            String kind = f.formals.get(i);
            String name = newName();
            add(kind.replace("[]", ""), name);
            if (kind.endsWith("[]")) {
                add("[", "]");
            }
            known.add(new Known(name, kind, 4, false, null));
        }
        add(")", "{");
        gives = f.gives;
        current = functions.indexOf(f);
        loops = 0;
        localWords = 0;
        statements(3, 1 + upTo(6));
        if (f.gives && chance(70)) {
            add("return");
            expression(2);
            add(";");
        }
        add("}");
        shrink(before);
    }

    private void shrink(int size) {
        while (known.size() > size) {
            known.remove(known.size() - 1);
        }
    }

    private void statements(int depth, int n) {
        for (int i = 0; i < n && out.size() < 900; i++) {
            statement(depth);
        }
    }

    private void inner(int depth) {
        int before = known.size();
        if (chance(60)) {
            add("{");
            statements(depth, upTo(4));
            add("}");
        } else {
            statement(depth);
        }
        shrink(before);
    }

    private void statement(int depth) {
        int how = upTo(depth > 0 ? 17 : 10);
        if (how < 2) {
            told();
        } else if (how < 5) {
            simple();
            add(";");
        } else if (how < 7) {
            add("put", "(");
            expression(2);
            add(")", ";");
        } else if (how == 7) {
            if (loops > 0 && chance(60)) {
                add(chance(50) ? "break" : "continue", ";");
            } else {
                add(";");
            }
        } else if (how == 8 && chance(30)) {
            add("return");
            if (gives) {
                expression(2);
            }
            add(";");
        } else if (how == 9 && chance(10)) {
            add("halt", "(");
            expression(1);
            add(")", ";");
        } else if (how < 10) {
            simple();
            add(";");
        } else if (how < 12) {
            add("if", "(");
            expression(2);
            add(")");
            inner(depth - 1);
            if (chance(40)) {
                add("else");
                inner(depth - 1);
            }
        } else if (how == 12) {
            add("while", "(");
            expression(2);
            add(")");
            loops++;
            inner(depth - 1);
            loops--;
        } else if (how == 13) {
            add("do");
            loops++;
            inner(depth - 1);
            loops--;
            add("while", "(");
            expression(2);
            add(")", ";");
        } else if (how < 16) {
            forLoop(depth);
        } else {
            int before = known.size();
            add("{");
            statements(depth - 1, upTo(4));
            add("}");
            shrink(before);
        }
    }

    private void forLoop(int depth) {
        int before = known.size();
        add("for", "(");
        String counter = null;
        int how = upTo(4);
        if (how < 2 && localWords < 190) {
            counter = newName();
            localWords++;
            add("int", counter, "=");
            expression(1);
            known.add(new Known(counter, "int", 0, false, null));
        } else if (how == 2) {
            simple();
        }
        add(";");
        if (counter != null && chance(70)) {
            add(counter, "<", String.valueOf(upTo(8)));
        } else if (chance(70)) {
            expression(2);
        }
        add(";");
        if (counter != null && chance(80)) {
            add(counter, "++");
        } else if (chance(60)) {
            simple();
        }
        add(")");
        loops++;
        inner(depth - 1);
        loops--;
        shrink(before);
    }

    private void told() {
        String name = newName();
        int how = upTo(4);
        if (how < 2 || localWords > 180) {
            if (localWords > 195) {
                add(";");
                return;
            }
            localWords++;
            add("int", name);
            if (chance(60)) {
                add("=");
                expression(2);
            }
            add(";");
            known.add(new Known(name, "int", 0, false, null));
        } else {
            String kind = how == 2 ? "int" : "byte";
            int size = 1 + upTo(6);
            localWords += size;
            add(kind, name, "[");
            constantOf(size);
            add("]", ";");
            known.add(new Known(name, kind + "[]", size, false, null));
        }
    }

    private void simple() {
        int how = upTo(10);
        Known f = pickFunction();
        if (how < 2) {
            call(f, 1);
            return;
        }
        Known array = pick(chance(50) ? "int[]" : "byte[]");
        Known plain = pick("int");
        if (how < 6 && array != null || plain == null && array != null) {
            element(array, 1);
        } else if (plain != null) {
            add(plain.name);
        } else {
            call(f, 1);
            return;
        }
        if (chance(25)) {
            add(chance(60) ? "++" : "--");
        } else {
            add(CHANGES[upTo(CHANGES.length)]);
            expression(2);
        }
    }

    private void element(Known array, int depth) {
        add(array.name, "[");
        if (chance(45)) {
            add(String.valueOf(upTo(Math.max(1, array.size))));
        } else if (chance(70)) {
            add("(");
            expression(depth);
            add(")", "&", String.valueOf(Math.max(0, Integer.highestOneBit(array.size) - 1)));
        } else if (chance(50)) {
            expression(depth);
        } else {
            add("0");
        }
        add("]");
    }

    private void call(Known f, int depth) {
        add(f.name, "(");
        for (int i = 0; i < f.formals.size(); i++) {
            if (i > 0) {
                add(",");
            }
            String kind = f.formals.get(i);
            Known array = kind.endsWith("[]") ? pick(kind) : null;
            if (array != null) {
                add(array.name);
            } else {
                expression(depth);
            }
        }
        add(")");
    }

    private void expression(int depth) {
        int how = upTo(depth > 0 ? 14 : 5);
        Known plain = pick("int");
        Known array = pick(chance(50) ? "int[]" : "byte[]");
        if (how < 2) {
            number();
        } else if (how < 4) {
            Known c = pick("const");
            if (plain != null && (c == null || chance(80))) {
                add(plain.name);
            } else if (c != null) {
                add(c.name);
            } else {
                number();
            }
        } else if (how == 4) {
            if (array != null) {
                element(array, Math.max(0, depth - 1));
            } else {
                number();
            }
        } else if (how == 5) {
            add(new String[] {"-", "~", "!"}[upTo(3)]);
            expression(depth - 1);
        } else if (how == 6) {
            add("(");
            expression(depth - 1);
            add(")");
        } else if (how == 7) {
            expression(depth - 1);
            add("?");
            expression(depth - 1);
            add(":");
            expression(depth - 1);
        } else if (how == 8 && chance(30)) {
            add("get", "(", ")");
        } else if (how == 9) {
            Known f = pickFunction();
            if (f.gives) {
                number();
                add(JOINS[upTo(JOINS.length)]);
                call(f, depth - 1);
            } else {
                number();
            }
        } else {
            expression(depth - 1);
            add(JOINS[upTo(JOINS.length)]);
            expression(depth - 1);
        }
    }

    /** Changes some tokens by chance. */
    void spoil(List<String> tokens, int changes) {
        for (int n = 0; n < changes && !tokens.isEmpty(); n++) {
            int i = upTo(tokens.size());
            switch (upTo(7)) {
                case 0:
                    tokens.remove(i);
                    break;
                case 1:
                    tokens.add(i, SOUP[upTo(SOUP.length)]);
                    break;
                case 2:
                    tokens.set(i, SOUP[upTo(SOUP.length)]);
                    break;
                case 3:
                    tokens.add(i, tokens.get(upTo(tokens.size())));
                    break;
                default:
                    swapNames(tokens);
            }
        }
    }

    /** A NAME or NUMBER becomes another one of the text: the grammar stays, the meaning does not. */
    private void swapNames(List<String> tokens) {
        List<Integer> names = new ArrayList<>();
        for (int i = 0; i < tokens.size(); i++) {
            if (tokens.get(i).matches("v\\d+|[A-Z]_\\d+|f\\d|main|\\d+")) {
                names.add(i);
            }
        }
        if (!names.isEmpty()) {
            int to = names.get(upTo(names.size()));
            tokens.set(to, tokens.get(names.get(upTo(names.size()))));
        }
    }

    /** Only changes that keep the grammar. */
    void mistake(List<String> tokens, int changes) {
        for (int n = 0; n < changes; n++) {
            swapNames(tokens);
        }
    }

    String joined(List<String> tokens) {
        StringBuilder text = new StringBuilder();
        for (String t : tokens) {
            if (text.length() > 0 && (mayMerge(text.charAt(text.length() - 1), t.charAt(0)) || chance(30))) {
                text.append(gap());
            }
            text.append(t);
        }
        return text.toString();
    }

    private String gap() {
        int how = upTo(30);
        return how == 0 ? "\n" : how == 1 ? "/* a*b/ */" : how == 2 ? "//x/*\n" : how == 3 ? "  " : how == 4 ? "/**/" : " ";
    }

    private static boolean mayMerge(char a, char b) {
        String signs = "+-*/%&|^<>=!";
        return Character.isLetterOrDigit(a) && (Character.isLetterOrDigit(b) || b == '_')
                || signs.indexOf(a) >= 0 && signs.indexOf(b) >= 0;
    }
}
