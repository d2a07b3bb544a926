import java.util.ArrayList;
import java.util.HashMap;
import java.util.LinkedHashMap;
import java.util.List;
import java.util.Map;
import java.util.TreeMap;
import java.util.TreeSet;
import java.util.regex.Matcher;
import java.util.regex.Pattern;

/**
 * The document once more, in another way, for comparison: a tree is made of the text, all its faults are
 * gathered, and a run is done on the tree from its beginning each time that it goes on.
 */
final class Oracle {
    private static final String WORDS = " int byte void const if else while do for break continue return put get halt ";
    private static final Pattern PLAIN = Pattern.compile("[A-Za-z_0-9]+");
    private static final Pattern SIGN = Pattern.compile(
            ">>>=|>>>|>>=|<<=|>>|<<|>=|<=|==|!=|\\+=|-=|\\*=|/=|%=|&=|\\|=|\\^=|\\+\\+|--|\\|\\||&&|[()\\[\\]{},;?:=|^&<>+\\-*/%~!]");
    private static final String[][] LEVELS = {
        {"||"}, {"&&"}, {"|"}, {"^"}, {"&"}, {"==", "!="}, {"<", "<=", ">", ">="}, {"<<", ">>", ">>>"}, {"+", "-"}, {"*", "/", "%"}};
    private static final String CHANGES = " = += -= *= /= %= &= |= ^= <<= >>= >>>= ";

    static final class Fault extends RuntimeException {
        final int place;
        final int kind;

        Fault(int place, int kind) {
            super(null, null, false, false);
            this.place = place;
            this.kind = kind;
        }
    }

    /** The run can't go on: how it is then. */
    static final class Stop extends RuntimeException {
        final int how;

        Stop(int how) {
            super(null, null, false, false);
            this.how = how;
        }
    }

    record Token(String text, char kind, int place, int value) {
    }

    static final class Node {
        final String what;
        final int place;
        final List<Node> kids = new ArrayList<>();
        String name = "";
        int namePlace;
        int number;
        int bracket;
        Thing thing;
        String array = "";

        Node(String what, int place) {
            this.what = what;
            this.place = place;
        }
    }

    /** What a NAME stands for. */
    static final class Thing {
        String kind;
        String name;
        int place;
        int size;
        int value;
        boolean known;
        boolean global;
        int[] first;
        Function function;
    }

    static final class Function {
        String name;
        int place;
        boolean gives;
        final List<Thing> formals = new ArrayList<>();
        final List<Integer> formalPlaces = new ArrayList<>();
        Node body;
        int words;

        int measure() {
            int sum = 4 + words;
            for (Thing f : formals) {
                sum += f.kind.equals("int") ? 1 : 2;
            }
            return sum;
        }
    }

    private final String text;
    private final List<Token> tokens = new ArrayList<>();
    private int at;
    private int opened;
    int fault;
    final List<Function> functions = new ArrayList<>();
    private final List<Object> tolds = new ArrayList<>();
    private final Map<Object, Node> initial = new HashMap<>();
    private final List<Thing> globals = new ArrayList<>();
    private Function main;
    int words;

    // Judging.
    private final TreeMap<Integer, TreeSet<Integer>> faults = new TreeMap<>();
    private final List<Map<String, Thing>> scopes = new ArrayList<>();
    private final Map<String, List<Thing>> outside = new HashMap<>();
    private Function current;
    private boolean constant;
    private int loops;
    private static final int RETURNED = 80;

    Oracle(String text) {
        this.text = text;
        try {
            lex();
            while (!is("")) {
                told();
            }
            judge();
        } catch (Fault f) {
            fault = f.place * 16 + f.kind;
        }
    }

    // ---- tokens

    private void lex() {
        int i = 0;
        while (true) {
            if (i >= text.length()) {
                tokens.add(new Token("", 'e', text.length(), 0));
                return;
            }
            char c = text.charAt(i);
            if (c == ' ' || c == '\n') {
                i++;
            } else if (text.startsWith("//", i)) {
                int n = text.indexOf('\n', i);
                i = n < 0 ? text.length() : n;
            } else if (text.startsWith("/*", i)) {
                int n = text.indexOf("*/", i + 2);
                if (n < 0) {
                    tokens.add(new Token("?", 'b', i, 0));
                    return;
                }
                i = n + 2;
            } else {
                Token token = token(i);
                tokens.add(token);
                if (token.kind == 'b') {
                    return;
                }
                i += token.text.length();
            }
        }
    }

    private Token token(int i) {
        Token bad = new Token("?", 'b', i, 0);
        Matcher m = PLAIN.matcher(text).region(i, text.length());
        if (m.lookingAt()) {
            String t = m.group();
            if (!Character.isDigit(t.charAt(0))) {
                if (WORDS.contains(" " + t + " ")) {
                    return new Token(t, 'w', i, 0);
                }
                return t.length() > 16 ? bad : new Token(t, 'n', i, 0);
            }
            if (t.matches("0x[0-9a-fA-F]{1,8}")) {
                return new Token(t, '#', i, (int) Long.parseLong(t.substring(2), 16));
            }
            if (t.matches("[0-9]{1,10}") && Long.parseLong(t) < 1L << 32) {
                return new Token(t, '#', i, (int) Long.parseLong(t));
            }
            return bad;
        }
        m = SIGN.matcher(text).region(i, text.length());
        return m.lookingAt() ? new Token(m.group(), 's', i, 0) : bad;
    }

    // ---- grammar

    private Token now() {
        Token t = tokens.get(at);
        if (t.kind == 'b') {
            throw new Fault(t.place, 1);
        }
        return t;
    }

    private boolean is(String t) {
        Token n = now();
        return n.kind != 'n' && n.kind != '#' && n.text.equals(t);
    }

    private Fault misplaced() {
        return new Fault(now().place, 2);
    }

    private int need(String t) {
        if (!is(t)) {
            throw misplaced();
        }
        return tokens.get(at++).place;
    }

    private Token needName() {
        if (now().kind != 'n') {
            throw misplaced();
        }
        return tokens.get(at++);
    }

    private int open(String t) {
        if (!is(t)) {
            throw misplaced();
        }
        if (opened == 40) {
            throw new Fault(now().place, 3);
        }
        opened++;
        return tokens.get(at++).place;
    }

    private void close(String t) {
        need(t);
        opened--;
    }

    private void told() {
        if (is("const")) {
            need("const");
            need("int");
            Thing t = thing("const", needName());
            need("=");
            initial.put(t, e());
            need(";");
            tolds.add(t);
            return;
        }
        String kind = is("int") ? "int" : is("byte") ? "byte" : is("void") ? "void" : null;
        if (kind == null) {
            throw misplaced();
        }
        need(kind);
        Token name = needName();
        if (is("(") && !kind.equals("byte")) {
            function(name, kind.equals("int"));
        } else if (is("[") && !kind.equals("void")) {
            Thing t = thing(kind + "[]", name);
            Node n = new Node("array", name.place);
            open("[");
            n.kids.add(e());
            close("]");
            if (is("=")) {
                need("=");
                open("{");
                n.kids.add(e());
                while (is(",")) {
                    need(",");
                    n.kids.add(e());
                }
                close("}");
            }
            need(";");
            initial.put(t, n);
            tolds.add(t);
        } else if (kind.equals("int")) {
            Thing t = thing("int", name);
            if (is("=")) {
                need("=");
                initial.put(t, e());
            }
            need(";");
            tolds.add(t);
        } else {
            throw misplaced();
        }
    }

    private static Thing thing(String kind, Token name) {
        Thing t = new Thing();
        t.kind = kind;
        t.name = name.text;
        t.place = name.place;
        return t;
    }

    private void function(Token name, boolean gives) {
        Function f = new Function();
        f.name = name.text;
        f.place = name.place;
        f.gives = gives;
        open("(");
        while (!is(")")) {
            if (!f.formals.isEmpty()) {
                need(",");
            }
            f.formalPlaces.add(now().place);
            String kind = is("byte") ? "byte" : "int";
            need(kind);
            Token formal = needName();
            if (kind.equals("byte") || is("[")) {
                open("[");
                close("]");
                kind += "[]";
            }
            f.formals.add(thing(kind, formal));
        }
        close(")");
        f.body = block();
        functions.add(f);
        tolds.add(f);
    }

    private Node block() {
        Node n = new Node("block", now().place);
        open("{");
        while (!is("}")) {
            n.kids.add(statement());
        }
        close("}");
        return n;
    }

    private Node inParens() {
        open("(");
        Node e = e();
        close(")");
        return e;
    }

    private Node statement() {
        Token t = now();
        Node n = new Node(t.kind == 'w' ? t.text : "", t.place);
        if (is("{")) {
            return block();
        }
        if (is(";")) {
            need(";");
            return new Node("nothing", t.place);
        }
        if (is("int") || is("byte")) {
            Node told = localTold(true);
            need(";");
            return told;
        }
        if (is("if")) {
            open("if");
            n.kids.add(inParens());
            n.kids.add(statement());
            if (is("else")) {
                need("else");
                n.kids.add(statement());
            }
            opened--;
            return n;
        }
        if (is("while")) {
            open("while");
            n.kids.add(inParens());
            n.kids.add(statement());
            opened--;
            return n;
        }
        if (is("do")) {
            open("do");
            Node body = statement();
            need("while");
            n.kids.add(inParens());
            n.kids.add(body);
            need(";");
            opened--;
            return n;
        }
        if (is("for")) {
            open("for");
            open("(");
            Node none = new Node("nothing", 0);
            n.kids.add(is(";") ? none : is("int") ? localTold(false) : simple());
            need(";");
            n.kids.add(is(";") ? null : e());
            need(";");
            n.kids.add(is(")") ? none : simple());
            close(")");
            n.kids.add(statement());
            opened--;
            return n;
        }
        if (is("break") || is("continue")) {
            need(t.text);
            need(";");
            return n;
        }
        if (is("return")) {
            need("return");
            n.namePlace = now().place;
            if (!is(";")) {
                n.kids.add(e());
            }
            need(";");
            return n;
        }
        if (is("put") || is("halt")) {
            need(t.text);
            n.kids.add(inParens());
            need(";");
            return n;
        }
        Node s = simple();
        need(";");
        return s;
    }

    private Node localTold(boolean anyKind) {
        Node n = new Node("told", now().place);
        String kind = is("int") ? "int" : "byte";
        need(kind);
        Token name = needName();
        n.name = name.text;
        n.namePlace = name.place;
        if (anyKind && is("[")) {
            open("[");
            n.kids.add(e());
            close("]");
            n.array = kind + "[]";
        } else if (kind.equals("byte")) {
            throw misplaced();
        } else if (is("=")) {
            need("=");
            n.kids.add(e());
        } else if (!anyKind || !is(";")) {
            throw misplaced();
        }
        return n;
    }

    private Node simple() {
        Node place = named();
        if (place.what.equals("call")) {
            Node n = new Node("do call", place.place);
            n.kids.add(place);
            return n;
        }
        Token t = now();
        Node n = new Node("change", place.place);
        n.name = t.text;
        n.kids.add(place);
        if (is("++") || is("--")) {
            at++;
            return n;
        }
        if (t.kind != 's' || !CHANGES.contains(" " + t.text + " ")) {
            throw misplaced();
        }
        at++;
        n.kids.add(e());
        return n;
    }

    /** A PLACE or a CALL. */
    private Node named() {
        Token t = needName();
        if (is("[")) {
            Node n = new Node("element", t.place);
            n.name = t.text;
            n.bracket = open("[");
            n.kids.add(e());
            close("]");
            return n;
        }
        if (is("(")) {
            Node n = new Node("call", t.place);
            n.name = t.text;
            open("(");
            if (!is(")")) {
                n.kids.add(e());
                while (is(",")) {
                    need(",");
                    n.kids.add(e());
                }
            }
            n.bracket = now().place;
            close(")");
            return n;
        }
        Node n = new Node("name", t.place);
        n.name = t.text;
        return n;
    }

    private Node e() {
        Node a = level(0);
        if (!is("?")) {
            return a;
        }
        open("?");
        Node n = new Node("?", a.place);
        n.kids.add(a);
        n.kids.add(e());
        need(":");
        n.kids.add(e());
        opened--;
        return n;
    }

    private Node level(int i) {
        if (i == LEVELS.length) {
            return ahead();
        }
        Node a = level(i + 1);
        while (true) {
            String found = null;
            for (String sign : LEVELS[i]) {
                if (is(sign)) {
                    found = sign;
                }
            }
            if (found == null) {
                return a;
            }
            need(found);
            Node n = new Node("join", a.place);
            n.name = found;
            n.kids.add(a);
            n.kids.add(level(i + 1));
            a = n;
        }
    }

    private Node ahead() {
        Token t = now();
        if (is("-") || is("~") || is("!")) {
            at++;
            Node n = new Node("ahead", t.place);
            n.name = t.text;
            n.kids.add(ahead());
            return n;
        }
        if (t.kind == '#') {
            at++;
            Node n = new Node("number", t.place);
            n.number = t.value;
            return n;
        }
        if (t.kind == 'n') {
            return named();
        }
        if (is("get")) {
            need("get");
            open("(");
            close(")");
            return new Node("get", t.place);
        }
        if (is("(")) {
            Node n = new Node("parens", t.place);
            n.kids.add(inParens());
            return n;
        }
        throw misplaced();
    }

    // ---- judging

    private void note(int place, int kind) {
        faults.computeIfAbsent(place, p -> new TreeSet<>()).add(kind);
    }

    private void judge() {
        Map<String, Integer> told = new HashMap<>();
        int number = 0;
        for (Object o : tolds) {
            Thing t = o instanceof Thing ? (Thing) o : new Thing();
            if (o instanceof Function f) {
                t.kind = "function";
                t.name = f.name;
                t.place = f.place;
                t.function = f;
                t.known = true;
                number++;
                if (number > 40) {
                    note(f.place, 11);
                }
                if (f.name.equals("main") && main == null) {
                    main = f;
                }
            }
            t.global = true;
            if (told.merge(t.name, 1, Integer::sum) > 1) {
                note(t.place, 5);
            }
            outside.computeIfAbsent(t.name, n -> new ArrayList<>()).add(t);
        }
        for (Object o : tolds) {
            if (o instanceof Function f) {
                judgeFunction(f);
            } else {
                judgeGlobal((Thing) o);
            }
        }
        if (main == null) {
            note(text.length(), 12);
        }
        if (!faults.isEmpty()) {
            TreeSet<Integer> kinds = faults.firstEntry().getValue();
            throw new Fault(faults.firstKey(), leastOf(kinds));
        }
    }

    private static int leastOf(TreeSet<Integer> kinds) {
        if (kinds.contains(4) || kinds.contains(5)) {
            return kinds.first();
        }
        if (kinds.contains(7)) {
            return 7;
        }
        return kinds.contains(RETURNED) ? 8 : kinds.first();
    }

    private void judgeGlobal(Thing t) {
        Node init = initial.get(t);
        if (t.kind.equals("const")) {
            Integer v = constant(init);
            t.value = v == null ? 0 : v;
        } else if (t.kind.equals("int")) {
            Integer v = init == null ? Integer.valueOf(0) : constant(init);
            t.first = new int[] {v == null ? 0 : v};
            moreWords(t, 1);
        } else {
            t.size = size(init.kids.get(0));
            t.first = new int[t.size];
            moreWords(t, wordsOf(t.kind, t.size));
            boolean beyond = false;
            for (int i = 1; i < init.kids.size(); i++) {
                Integer v = constant(init.kids.get(i));
                if (i > t.size) {
                    if (!beyond) {
                        note(init.kids.get(i).place, 10);
                    }
                    beyond = true;
                } else {
                    t.first[i - 1] = v == null ? 0 : t.kind.equals("byte[]") ? v & 255 : v;
                }
            }
        }
        t.known = true;
        if (!t.kind.equals("const")) {
            globals.add(t);
        }
    }

    private void moreWords(Thing t, int n) {
        words += n;
        if (words > 2000) {
            note(t.place, 11);
        }
    }

    private static int wordsOf(String kind, int size) {
        return kind.equals("byte[]") ? (size + 3) / 4 : size;
    }

    /** The value, or null where a fault is in it. */
    private Integer constant(Node e) {
        int before = count();
        constant = true;
        value(e);
        constant = false;
        return count() == before && !hasFaultWithin(e) ? Integer.valueOf(new Run(0, 0, new ArrayList<>()).value(e)) : null;
    }

    private int count() {
        int n = 0;
        for (TreeSet<Integer> s : faults.values()) {
            n += s.size();
        }
        return n;
    }

    private boolean hasFaultWithin(Node e) {
        if ((e.what.equals("name") || e.what.equals("call") || e.what.equals("element") || e.what.equals("get"))
                && faults.containsKey(e.place)) {
            return true;
        }
        for (Node kid : e.kids) {
            if (hasFaultWithin(kid)) {
                return true;
            }
        }
        return false;
    }

    private int size(Node e) {
        Integer n = constant(e);
        if (n == null) {
            return 0;
        }
        if (n < 1 || n > 500) {
            note(e.place, 10);
            return 0;
        }
        return n;
    }

    private Thing find(String name) {
        for (int i = scopes.size() - 1; i >= 0; i--) {
            if (scopes.get(i).containsKey(name)) {
                return scopes.get(i).get(name);
            }
        }
        for (Thing t : outside.getOrDefault(name, List.of())) {
            if (t.known) {
                return t;
            }
        }
        return null;
    }

    private void tell(Thing t) {
        Map<String, Thing> scope = scopes.get(scopes.size() - 1);
        if (scope.containsKey(t.name)) {
            note(t.place, 5);
        } else {
            scope.put(t.name, t);
        }
    }

    private void judgeFunction(Function f) {
        current = f;
        loops = 0;
        scopes.add(new HashMap<>());
        for (int i = 0; i < f.formals.size(); i++) {
            if (i >= 4) {
                note(f.formals.get(i).place, 11);
            }
            if (f.name.equals("main")) {
                note(f.formalPlaces.get(i), 12);
            }
            tell(f.formals.get(i));
        }
        for (Node s : f.body.kids) {
            check(s);
        }
        scopes.remove(scopes.size() - 1);
    }

    private void scoped(Node s) {
        scopes.add(new LinkedHashMap<>());
        check(s);
        scopes.remove(scopes.size() - 1);
    }

    private void check(Node s) {
        switch (s.what) {
            case "block":
                scopes.add(new HashMap<>());
                for (Node kid : s.kids) {
                    check(kid);
                }
                scopes.remove(scopes.size() - 1);
                break;
            case "told":
                checkTold(s);
                break;
            case "if":
                value(s.kids.get(0));
                for (int i = 1; i < s.kids.size(); i++) {
                    scoped(s.kids.get(i));
                }
                break;
            case "while":
            case "do":
                value(s.kids.get(0));
                loops++;
                scoped(s.kids.get(1));
                loops--;
                break;
            case "for":
                scopes.add(new HashMap<>());
                check(s.kids.get(0));
                if (s.kids.get(1) != null) {
                    value(s.kids.get(1));
                }
                check(s.kids.get(2));
                loops++;
                scoped(s.kids.get(3));
                loops--;
                scopes.remove(scopes.size() - 1);
                break;
            case "break":
            case "continue":
                if (loops == 0) {
                    note(s.place, 9);
                }
                break;
            case "return":
                if (s.kids.isEmpty()) {
                    if (current.gives) {
                        note(s.namePlace, 8);
                    }
                } else {
                    if (!current.gives) {
                        note(s.namePlace, RETURNED);
                    }
                    value(s.kids.get(0));
                }
                break;
            case "put":
            case "halt":
                value(s.kids.get(0));
                break;
            case "do call":
                call(s.kids.get(0));
                break;
            case "change":
                checkChange(s);
                break;
            default:
        }
    }

    private void checkTold(Node s) {
        Thing t = new Thing();
        t.kind = s.array.isEmpty() ? "int" : s.array;
        t.name = s.name;
        t.place = s.namePlace;
        int more = 1;
        if (!s.array.isEmpty()) {
            t.size = size(s.kids.get(0));
            more = wordsOf(t.kind, t.size);
        } else if (!s.kids.isEmpty()) {
            value(s.kids.get(0));
        }
        current.words += more;
        if (current.words > 200) {
            note(t.place, 11);
        }
        s.thing = t;
        tell(t);
    }

    private void checkChange(Node s) {
        Node p = s.kids.get(0);
        p.thing = find(p.name);
        if (p.thing == null) {
            note(p.place, 4);
        } else if (p.what.equals("element") ? !p.thing.kind.endsWith("[]") : !p.thing.kind.equals("int")) {
            note(p.place, 6);
        }
        for (Node kid : p.kids) {
            value(kid);
        }
        if (s.kids.size() > 1) {
            value(s.kids.get(1));
        }
    }

    private void value(Node e) {
        switch (e.what) {
            case "name":
            case "element":
                e.thing = find(e.name);
                if (e.thing == null) {
                    note(e.place, 4);
                } else if (constant) {
                    if (e.what.equals("element") || !e.thing.kind.equals("const")) {
                        note(e.place, 10);
                    }
                } else if (e.what.equals("element")) {
                    if (!e.thing.kind.endsWith("[]")) {
                        note(e.place, 6);
                    }
                } else if (!e.thing.kind.equals("int") && !e.thing.kind.equals("const")) {
                    note(e.place, 6);
                }
                if (e.thing != null && e.thing.function != null && !e.thing.function.gives) {
                    note(e.place, 8);
                }
                for (Node kid : e.kids) {
                    value(kid);
                }
                break;
            case "call":
                call(e);
                if (e.thing != null && e.thing.function != null && !e.thing.function.gives) {
                    note(e.place, 8);
                }
                break;
            case "get":
                if (constant) {
                    note(e.place, 10);
                }
                break;
            default:
                for (Node kid : e.kids) {
                    value(kid);
                }
        }
    }

    private void call(Node e) {
        e.thing = find(e.name);
        Function f = null;
        if (e.thing == null) {
            note(e.place, 4);
        } else if (constant) {
            note(e.place, 10);
            f = e.thing.function;
        } else if (e.thing.function == null) {
            note(e.place, 6);
        } else {
            f = e.thing.function;
        }
        for (int i = 0; i < e.kids.size(); i++) {
            Node kid = e.kids.get(i);
            if (f != null && i >= f.formals.size()) {
                note(kid.place, 7);
                value(kid);
            } else if (f != null && f.formals.get(i).kind.endsWith("[]")) {
                if (kid.what.equals("name")) {
                    kid.thing = find(kid.name);
                    if (kid.thing == null) {
                        note(kid.place, 4);
                    } else if (!kid.thing.kind.equals(f.formals.get(i).kind)) {
                        note(kid.place, 7);
                    }
                } else {
                    note(kid.place, 7);
                    value(kid);
                }
            } else {
                value(kid);
            }
        }
        if (f != null && e.kids.size() < f.formals.size()) {
            note(e.bracket, 7);
        }
    }

    // ---- runs

    /** One run from its beginning, with all the TURNS and all the INPUT that it has had by then. */
    final class Run {
        private final int limit;
        private final long budget;
        private final List<Integer> input;
        private final Map<Thing, int[]> held = new HashMap<>();
        private Map<Thing, int[]> frame;
        private int returned;
        int how;
        long taken;
        int used;
        int value;
        int place = -1;
        int depth;
        long count;
        final List<Integer> output = new ArrayList<>();

        Run(int limit, long budget, List<Integer> input) {
            this.limit = limit;
            this.budget = budget;
            this.input = input;
            for (Thing t : globals) {
                held.put(t, t.first.clone());
            }
        }

        Run go() {
            try {
                if (main.measure() > limit) {
                    place = main.place;
                    throw new Stop(6);
                }
                value = enter(main, new HashMap<>());
                how = 3;
            } catch (Stop s) {
                how = s.how;
            }
            return this;
        }

        int word(int i) {
            int from = 0;
            for (Thing t : globals) {
                int[] a = held.get(t);
                int n = t.kind.equals("int") ? 1 : wordsOf(t.kind, t.size);
                if (i >= from && i < from + n) {
                    if (!t.kind.equals("byte[]")) {
                        return a[i - from];
                    }
                    int word = 0;
                    for (int k = 3; k >= 0; k--) {
                        int at = (i - from) * 4 + k;
                        word = word << 8 | (at < a.length ? a[at] : 0);
                    }
                    return word;
                }
                from += n;
            }
            return 0;
        }

        private int enter(Function f, Map<Thing, int[]> locals) {
            Map<Thing, int[]> outer = frame;
            frame = locals;
            depth += f.measure();
            returned = 0;
            statements(f.body.kids);
            int result = returned;
            returned = 0;
            depth -= f.measure();
            frame = outer;
            return result;
        }

        private void turn() {
            if (taken == budget) {
                throw new Stop(1);
            }
            taken++;
        }

        private static final int ON = 0;
        private static final int BREAK = 1;
        private static final int CONTINUE = 2;
        private static final int RETURN = 3;

        private int statements(List<Node> list) {
            for (Node s : list) {
                int how = does(s);
                if (how != ON) {
                    return how;
                }
            }
            return ON;
        }

        private int does(Node s) {
            switch (s.what) {
                case "block":
                    return statements(s.kids);
                case "told":
                    if (s.array.isEmpty()) {
                        frame.put(s.thing, new int[] {s.kids.isEmpty() ? 0 : value(s.kids.get(0))});
                    } else {
                        frame.put(s.thing, new int[s.thing.size]);
                    }
                    return ON;
                case "if":
                    if (value(s.kids.get(0)) != 0) {
                        return does(s.kids.get(1));
                    }
                    return s.kids.size() > 2 ? does(s.kids.get(2)) : ON;
                case "while":
                    while (value(s.kids.get(0)) != 0) {
                        int how = body(s.kids.get(1));
                        if (how == BREAK || how == RETURN) {
                            return how == RETURN ? RETURN : ON;
                        }
                    }
                    return ON;
                case "do":
                    do {
                        int how = body(s.kids.get(1));
                        if (how == BREAK || how == RETURN) {
                            return how == RETURN ? RETURN : ON;
                        }
                    } while (value(s.kids.get(0)) != 0);
                    return ON;
                case "for":
                    for (does(s.kids.get(0)); s.kids.get(1) == null || value(s.kids.get(1)) != 0; does(s.kids.get(2))) {
                        int how = body(s.kids.get(3));
                        if (how == BREAK || how == RETURN) {
                            return how == RETURN ? RETURN : ON;
                        }
                    }
                    return ON;
                case "break":
                    return BREAK;
                case "continue":
                    return CONTINUE;
                case "return":
                    int result = s.kids.isEmpty() ? 0 : value(s.kids.get(0));
                    returned = result;
                    return RETURN;
                case "put":
                    int shown = value(s.kids.get(0));
                    count++;
                    if (output.size() < 2000) {
                        output.add(shown);
                    }
                    return ON;
                case "halt":
                    value = value(s.kids.get(0));
                    throw new Stop(4);
                case "do call":
                    value(s.kids.get(0));
                    return ON;
                case "change":
                    change(s);
                    return ON;
                default:
                    return ON;
            }
        }

        private int body(Node s) {
            turn();
            return does(s);
        }

        private int[] array(Thing t) {
            return t.global ? held.get(t) : frame.get(t);
        }

        private int index(Node e) {
            int i = value(e.kids.get(0));
            if (i < 0 || i >= array(e.thing).length) {
                place = e.bracket;
                throw new Stop(5);
            }
            return i;
        }

        private void change(Node s) {
            Node p = s.kids.get(0);
            int i = p.what.equals("element") ? index(p) : 0;
            int[] a = array(p.thing);
            int old = a[i];
            int operand = s.kids.size() > 1 ? value(s.kids.get(1)) : 1;
            String sign = s.name.equals("++") ? "+=" : s.name.equals("--") ? "-=" : s.name;
            int now = sign.equals("=") ? operand : join(sign.substring(0, sign.length() - 1), old, operand);
            a[i] = p.thing.kind.equals("byte[]") ? now & 255 : now;
        }

        private int value(Node e) {
            switch (e.what) {
                case "number":
                    return e.number;
                case "parens":
                    return value(e.kids.get(0));
                case "ahead":
                    int a = value(e.kids.get(0));
                    return e.name.equals("-") ? 0 - a : e.name.equals("~") ? -1 - a : a == 0 ? 1 : 0;
                case "?":
                    return value(e.kids.get(value(e.kids.get(0)) != 0 ? 1 : 2));
                case "join":
                    if (e.name.equals("&&")) {
                        return value(e.kids.get(0)) != 0 && value(e.kids.get(1)) != 0 ? 1 : 0;
                    }
                    if (e.name.equals("||")) {
                        return value(e.kids.get(0)) != 0 || value(e.kids.get(1)) != 0 ? 1 : 0;
                    }
                    int left = value(e.kids.get(0));
                    return join(e.name, left, value(e.kids.get(1)));
                case "name":
                    return e.thing.kind.equals("const") ? e.thing.value : array(e.thing)[0];
                case "element":
                    int i = index(e);
                    return array(e.thing)[i];
                case "get":
                    if (used == input.size()) {
                        throw new Stop(2);
                    }
                    used++;
                    return input.get(used - 1);
                default:
                    return called(e);
            }
        }

        private int called(Node e) {
            Function f = e.thing.function;
            Map<Thing, int[]> locals = new HashMap<>();
            for (int i = 0; i < e.kids.size(); i++) {
                Node kid = e.kids.get(i);
                Thing formal = f.formals.get(i);
                locals.put(formal, formal.kind.equals("int") ? new int[] {value(kid)} : array(kid.thing));
            }
            turn();
            if (depth + f.measure() > limit) {
                place = e.place;
                throw new Stop(6);
            }
            return enter(f, locals);
        }
    }

    private static int join(String sign, int a, int b) {
        long x = a;
        long y = b;
        switch (sign) {
            case "|":
                return a | b;
            case "^":
                return a ^ b;
            case "&":
                return a & b;
            case "==":
                return a == b ? 1 : 0;
            case "!=":
                return a == b ? 0 : 1;
            case "<":
                return x - y < 0 ? 1 : 0;
            case "<=":
                return x - y <= 0 ? 1 : 0;
            case ">":
                return x - y > 0 ? 1 : 0;
            case ">=":
                return x - y >= 0 ? 1 : 0;
            case "<<":
                return (int) (x << (b & 31));
            case ">>":
                return (int) (x >> (b & 31));
            case ">>>":
                return (int) ((x & 0xffffffffL) >> (b & 31));
            case "+":
                return (int) (x + y);
            case "-":
                return (int) (x - y);
            case "*":
                return (int) (x * y);
            case "/":
                return b == 0 ? -1 : (int) (x / y);
            default:
                return b == 0 ? a : (int) (x % y);
        }
    }
}
