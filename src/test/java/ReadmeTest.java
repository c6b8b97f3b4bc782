import java.io.IOException;
import java.lang.reflect.Method;
import java.lang.reflect.Modifier;
import java.nio.file.Files;
import java.nio.file.Path;
import java.util.HashMap;
import java.util.Map;
import java.util.regex.Matcher;
import java.util.regex.Pattern;

/** Plays the examples of README.md, and looks whether it names every call and every constant. */
public final class ReadmeTest {
    private static final Pattern EXAMPLE = Pattern.compile("book\\.(\\w+)\\((.*)\\); *// (-?\\d+)\\b.*");
    private static final Pattern CALL = Pattern.compile("`(\\w+)\\(([a-z, ]*)\\)`");
    private static final Check check = new Check();

    public static void main(String[] args) throws IOException, ReflectiveOperationException {
        String page = Files.readString(Path.of("README.md"));
        Map<String, Method> face = face();
        check.due("the page has examples", play(page, face) > 0 ? 1 : 0, 1);
        calls(page, face);
        constants(page);
        check.end();
    }

    private static Map<String, Method> face() {
        Map<String, Method> face = new HashMap<>();
        for (Method method : VacantAir.class.getDeclaredMethods()) {
            if (Modifier.isPublic(method.getModifiers())) {
                face.put(method.getName(), method);
            }
        }
        return face;
    }

    /** All examples go on with the same book, as they stand on the page. */
    private static int play(String page, Map<String, Method> face) throws ReflectiveOperationException {
        VacantAir book = new VacantAir();
        int played = 0;
        for (String line : page.split("\n")) {
            if (line.startsWith("book.")) {
                Matcher example = EXAMPLE.matcher(line);
                check.due(line + " has the form of an example", example.matches() ? 1 : 0, 1);
                Method method = face.get(example.group(1));
                check.due(line, (Integer) method.invoke(book, numbers(example.group(2))),
                    Integer.parseInt(example.group(3)));
                played++;
            }
        }
        return played;
    }

    private static Object[] numbers(String written) {
        if (written.isEmpty()) {
            return new Object[0];
        }
        String[] parts = written.split(", ");
        Object[] numbers = new Object[parts.length];
        for (int i = 0; i < parts.length; i++) {
            numbers[i] = parts[i].startsWith("'") ? (int) parts[i].charAt(1) : Integer.parseInt(parts[i]);
        }
        return numbers;
    }

    private static void calls(String page, Map<String, Method> face) {
        Map<String, Integer> named = new HashMap<>();
        Matcher call = CALL.matcher(page);
        while (call.find()) {
            named.put(call.group(1), call.group(2).isEmpty() ? 0 : call.group(2).split(", ").length);
        }
        for (Method method : face.values()) {
            check.due("arguments that the page tells of " + method.getName(),
                named.getOrDefault(method.getName(), -1), method.getParameterCount());
        }
        check.due("calls that the page tells", named.size(), face.size());
    }

    private static void constants(String page) {
        String[] names = {"BAD_INDEX", "BAD_VALUE", "NOT_POSSIBLE", "FULL", "REFUSED", "NONE"};
        int[] values = {VacantAir.BAD_INDEX, VacantAir.BAD_VALUE, VacantAir.NOT_POSSIBLE, VacantAir.FULL,
            VacantAir.REFUSED, VacantAir.NONE};
        for (int i = 0; i < names.length; i++) {
            boolean told = page.contains("| `" + names[i] + "` | " + values[i] + " |");
            check.due("the page tells " + names[i], told ? 1 : 0, 1);
        }
    }
}
