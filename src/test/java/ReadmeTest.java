import java.lang.reflect.InvocationTargetException;
import java.lang.reflect.Method;
import java.lang.reflect.Modifier;
import java.nio.file.Files;
import java.nio.file.Path;
import java.util.regex.Matcher;
import java.util.regex.Pattern;
import java.util.stream.Stream;

/** README.md shows calls with their answers, every call of the face and every test: this holds it to that. */
public final class ReadmeTest {
    private static final Pattern SHOWN = Pattern.compile("house\\.(\\w+)\\(([^)]*)\\);\\s*// (-?\\d+|true|false)\\b");

    public static void main(String[] args) throws Exception {
        String readme = Files.readString(Path.of("README.md"));
        shownCalls(readme);
        everyCallIsNamed(readme);
        everyTestIsNamed(readme);
        Due.done();
    }

    private static void shownCalls(String readme) throws IllegalAccessException, InvocationTargetException {
        CompiledHouse house = new CompiledHouse();
        int shown = 0;
        for (String line : readme.split("\n")) {
            Matcher m = SHOWN.matcher(line);
            if (m.lookingAt()) {
                shown++;
                Due.be(line, answer(house, m.group(1), m.group(2)), number(m.group(3)));
            } else {
                Due.be("a call without its answer: " + line, line.startsWith("house."), false);
            }
        }
        Due.be("calls are shown", shown > 20, true);
    }

    private static long answer(CompiledHouse house, String name, String listed) throws IllegalAccessException, InvocationTargetException {
        String[] texts = listed.isEmpty() ? new String[0] : listed.split(", ");
        Object[] numbers = new Object[texts.length];
        for (int i = 0; i < texts.length; i++) {
            numbers[i] = (int) (long) Long.decode(texts[i]);
        }
        for (Method method : CompiledHouse.class.getDeclaredMethods()) {
            if (Modifier.isPublic(method.getModifiers()) && method.getName().equals(name)) {
                return number(method.invoke(house, numbers).toString());
            }
        }
        Due.be("there is no call " + name, false, true);
        return 0;
    }

    private static long number(String text) {
        return text.equals("true") ? 1 : text.equals("false") ? 0 : Long.parseLong(text);
    }

    private static void everyCallIsNamed(String readme) {
        for (Method method : CompiledHouse.class.getDeclaredMethods()) {
            if (Modifier.isPublic(method.getModifiers())) {
                Due.be("README.md shows " + method.getName(), readme.contains("house." + method.getName() + "(")
                        || readme.contains("`" + method.getName() + "("), true);
            }
        }
    }

    private static void everyTestIsNamed(String readme) throws Exception {
        try (Stream<Path> files = Files.list(Path.of("src/test/java"))) {
            files.map(file -> file.getFileName().toString().replace(".java", ""))
                    .forEach(name -> Due.be("README.md names " + name, readme.contains("`" + name + "`"), true));
        }
    }
}
