import java.lang.reflect.Constructor;
import java.lang.reflect.Field;
import java.lang.reflect.Method;
import java.lang.reflect.Modifier;
import java.nio.file.Files;
import java.nio.file.Path;
import java.util.List;
import java.util.Set;
import java.util.TreeSet;
import java.util.regex.Pattern;

/** The face of the document, and those rules of LANGUAGE.md that can be seen from outside. */
public final class LanguageTest {
    private static final Set<String> FACE = new TreeSet<>(List.of(
            "int feed(int,int,int,int,int)", "int end(int)", "int read()", "int look(int,int)", "int give(int)", "boolean begin(int)",
            "int run(int)", "int output(int)", "int world(int)", "int global(int)", "boolean put(int,int)", "boolean set(int,int)",
            "int go(int)", "int board(int)"));

    public static void main(String[] args) throws Exception {
        face();
        for (Class<?> inside : CompiledHouse.class.getDeclaredClasses()) {
            classInside(inside);
        }
        // "some twelve classes", "some sixty lines", "some twenty fields": a few more are not told apart here.
        Due.be("classes", CompiledHouse.class.getDeclaredClasses().length <= 13, true);
        text(Files.readString(Path.of("src/main/java/CompiledHouse.java")));
        Due.done();
    }

    private static void face() {
        Class<?> house = CompiledHouse.class;
        Due.be("public final", house.getModifiers(), Modifier.PUBLIC | Modifier.FINAL);
        Set<String> found = new TreeSet<>();
        Set<String> names = new TreeSet<>();
        for (Method m : house.getDeclaredMethods()) {
            if (m.isSynthetic()) {
                continue;
            }
            if (Modifier.isPublic(m.getModifiers())) {
                String parameters = List.of(m.getParameterTypes()).toString().replaceAll("[\\[\\] ]", "");
                found.add(m.getReturnType() + " " + m.getName() + "(" + parameters + ")");
                names.add(m.getName());
            } else {
                Due.be("private " + m, Modifier.isPrivate(m.getModifiers()), true);
            }
        }
        Due.be("the face is " + found, found.equals(FACE), true);
        for (Method m : house.getDeclaredMethods()) {
            Due.be("no private method bears a public name: " + m, Modifier.isPrivate(m.getModifiers()) && names.contains(m.getName()), false);
        }
        for (Field f : house.getDeclaredFields()) {
            boolean constant = f.getName().equals("NONE");
            Due.be("field " + f, constant ? Modifier.isPublic(f.getModifiers()) : Modifier.isPrivate(f.getModifiers()), true);
        }
        for (Constructor<?> c : house.getDeclaredConstructors()) {
            Due.be("constructor " + c, Modifier.isPublic(c.getModifiers()) && c.getParameterCount() == 0, true);
        }
        fields(house);
    }

    private static void classInside(Class<?> inside) {
        Due.be("static " + inside, Modifier.isStatic(inside.getModifiers()), true);
        for (Method m : inside.getDeclaredMethods()) {
            Due.be("parameters of " + m, m.getParameterCount() <= 7, true);
            for (String known : FACE) {
                boolean bears = Modifier.isPrivate(m.getModifiers()) && known.contains(" " + m.getName() + "(");
                Due.be("no private method bears a public name: " + m, bears, false);
            }
        }
        fields(inside);
    }

    private static void fields(Class<?> owner) {
        int count = 0;
        for (Field f : owner.getDeclaredFields()) {
            if (Modifier.isStatic(f.getModifiers())) {
                Due.be("final " + f, Modifier.isFinal(f.getModifiers()), true);
            } else {
                count++;
            }
        }
        Due.be("fields of " + owner, count <= 22, true);
    }

    private static void text(String source) {
        String plain = source.replaceAll("(?s)/\\*.*?\\*/", "").replaceAll("//[^\n]*", "").replaceAll("\"[^\"\n]*\"", "\"\"");
        String[] forbidden = {
            "throw", "throws", "try", "catch", "finally", "synchronized", "assert", "volatile", "package", "protected", "Exact", "Object", "Random",
            "Thread", "currentTimeMillis", "nanoTime", "getClass", "hashCode", "String\\s*\\[", "\\) *->", "::", "static\\s*\\{"};
        for (String word : forbidden) {
            boolean letters = Character.isLetter(word.charAt(0)) && Character.isLetter(word.charAt(word.length() - 1));
            Pattern pattern = Pattern.compile(letters ? "\\b" + word + "\\b" : word);
            Due.be("has " + word, pattern.matcher(plain).find(), false);
        }
        Due.be("imports", plain.lines().filter(l -> l.startsWith("import")).allMatch(l -> l.matches("import java\\.util\\.(Arrays|ArrayList|List|Iterator);")), true);
        Due.be("joins no texts by +", Pattern.compile("\"\"\\s*\\+|\\+\\s*\"\"").matcher(plain).find(), false);
        int length = 0;
        for (String line : plain.split("\n")) {
            if (line.matches("    (    )?[^ ].*\\) \\{")) {
                length = 1;
            } else if (line.matches("    (    )?}")) {
                length = 0;
            } else if (length > 0) {
                length++;
            }
            Due.be("a long method goes on at " + line, length <= 64, true);
        }
    }
}
