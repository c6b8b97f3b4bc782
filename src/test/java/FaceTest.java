import java.io.IOException;
import java.lang.reflect.Constructor;
import java.lang.reflect.Field;
import java.lang.reflect.Method;
import java.lang.reflect.Modifier;
import java.nio.file.Files;
import java.nio.file.Path;
import java.util.Arrays;
import java.util.Set;
import java.util.TreeSet;
import java.util.regex.Matcher;
import java.util.regex.Pattern;

/** The public face, and the rules of LANGUAGE.md that can be read off the class or its source. */
public final class FaceTest {
    private static final Check check = new Check();

    private static final String[] FACE = {
        "addStation/4", "addEvent/6", "addDevice/3", "set/2", "wake/1", "sleep/1", "cancel/1", "lease/3",
        "renew/2", "giveBack/1", "pass/1", "append/1", "clearText/0", "faultPosition/0", "run/0", "undo/0",
        "save/1", "restore/1", "station/2", "event/2", "device/2", "power/3", "offer/2", "next/1", "leases/1",
        "total/1", "vacant/2", "allowedFrom/4", "wouldStrike/1", "channelIn/2", "clearIn/0"};

    public static void main(String[] args) throws IOException {
        constants();
        members();
        nestedClasses();
        source();
        check.end();
    }

    private static void holds(String what, boolean so) {
        check.due(what, so ? 1 : 0, 1);
    }

    private static void constants() {
        check.due("BAD_INDEX", VacantAir.BAD_INDEX, -1);
        check.due("BAD_VALUE", VacantAir.BAD_VALUE, -2);
        check.due("NOT_POSSIBLE", VacantAir.NOT_POSSIBLE, -3);
        check.due("FULL", VacantAir.FULL, -4);
        check.due("REFUSED", VacantAir.REFUSED, -5);
        check.due("NONE", VacantAir.NONE, -6);
    }

    private static void members() {
        Set<String> due = new TreeSet<>(Arrays.asList(FACE));
        Set<String> found = new TreeSet<>();
        Set<String> names = new TreeSet<>();
        for (Method method : VacantAir.class.getDeclaredMethods()) {
            if (Modifier.isPublic(method.getModifiers())) {
                found.add(method.getName() + "/" + method.getParameterCount());
                names.add(method.getName());
                holds(method + " answers an int", method.getReturnType() == int.class);
            } else {
                holds(method + " is private", Modifier.isPrivate(method.getModifiers()));
            }
        }
        holds("the public methods are " + found, found.equals(due));
        int constants = 0;
        for (Field field : VacantAir.class.getDeclaredFields()) {
            if (Modifier.isPublic(field.getModifiers())) {
                constants++;
            } else {
                holds(field + " is private", Modifier.isPrivate(field.getModifiers()));
            }
            if (Modifier.isStatic(field.getModifiers())) {
                holds(field + " is final", Modifier.isFinal(field.getModifiers()));
            }
        }
        check.due("public constants", constants, 6);
        Constructor<?>[] constructors = VacantAir.class.getDeclaredConstructors();
        check.due("constructors", constructors.length, 1);
        check.due("its parameters", constructors[0].getParameterCount(), 0);
        holds("the class is final", Modifier.isFinal(VacantAir.class.getModifiers()));
        for (Class<?> nested : VacantAir.class.getDeclaredClasses()) {
            for (Method method : nested.getDeclaredMethods()) {
                holds(method + " bears no public name", !names.contains(method.getName()));
            }
        }
    }

    private static void nestedClasses() {
        Class<?>[] nested = VacantAir.class.getDeclaredClasses();
        holds("at most twelve classes", nested.length < 12);
        for (Class<?> one : nested) {
            int modifiers = one.getModifiers();
            holds(one + " is static", Modifier.isStatic(modifiers));
            holds(one + " is hidden", !Modifier.isPublic(modifiers) && !Modifier.isProtected(modifiers));
            int fields = 0;
            for (Field field : one.getDeclaredFields()) {
                if (!Modifier.isStatic(field.getModifiers())) {
                    fields++;
                }
            }
            holds(one + " has at most twenty fields", fields <= 20);
        }
    }

    private static void source() throws IOException {
        String source = Files.readString(Path.of("src/main/java/VacantAir.java"));
        String code = source.replaceAll("(?s)/\\*.*?\\*/", "").replaceAll("//[^\n]*", "");
        Matcher word = Pattern.compile("\\b(throw|throws|try|catch|finally|synchronized|assert|import|package|"
            + "protected|native|volatile|instanceof)\\b|->|::").matcher(code);
        while (word.find()) {
            holds("no '" + word.group() + "' in the source", false);
        }
        holds("no text constants", code.indexOf('"') < 0);
        library(code);
        methods(code);
    }

    /** Each name that begins like a class's name is one of the file's own, or of the little library used. */
    private static void library(String code) {
        Set<String> known = new TreeSet<>(Arrays.asList("VacantAir", "Math.min", "System.arraycopy"));
        for (Class<?> nested : VacantAir.class.getDeclaredClasses()) {
            known.add(nested.getSimpleName());
        }
        Matcher name = Pattern.compile("\\b[A-Z]+[a-z]\\w*(\\.\\w+)?").matcher(code);
        while (name.find()) {
            holds(name.group() + " is known", known.contains(name.group()));
        }
    }

    /** The file's form is regular: a method begins at 4 or 8 blanks and ends with a brace at the same depth. */
    private static void methods(String code) {
        Matcher method = Pattern.compile("(?ms)^( {4}| {8})(?! |class|interface)[^;={}]*?\\(([^;={}()]*)\\) \\{\n(.*?)^\\1\\}\n")
            .matcher(code);
        int found = 0;
        while (method.find()) {
            found++;
            String head = method.group().substring(0, method.group().indexOf('{')).trim();
            holds(head + " takes at most seven", method.group(2).split(",").length <= 7);
            holds(head + " is short", method.group(3).split("\n").length <= 60);
        }
        int written = VacantAir.class.getDeclaredMethods().length + 1;
        for (Class<?> nested : VacantAir.class.getDeclaredClasses()) {
            written += nested.getDeclaredMethods().length;
        }
        holds(found + " methods of " + written + " were looked at", found >= written);
    }
}
