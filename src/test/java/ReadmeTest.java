import java.lang.reflect.Method;
import java.lang.reflect.Modifier;
import java.nio.file.Files;
import java.nio.file.Path;
import java.util.regex.Matcher;
import java.util.regex.Pattern;

/** README.md tells no answer that the class does not give, and leaves out no call. */
public final class ReadmeTest {
    private static final Pattern LINE = Pattern.compile("realm\\.(\\w+)\\(([^)]*)\\); +// (-?\\w+)(:.*)?");
    private static int wrong = 0;

    private static void check(boolean holds, String text) {
        if (!holds) {
            wrong++;
            System.out.println(text);
        }
    }

    public static void main(String[] args) throws Exception {
        String text = Files.readString(Path.of("README.md"));
        example(text);
        names(text);
        if (wrong != 0) {
            System.exit(1);
        }
    }

    private static void example(String text) throws Exception {
        PortraitRule realm = new PortraitRule();
        int calls = 0;
        for (String line : text.split("\n")) {
            if (!line.startsWith("realm.")) {
                continue;
            }
            Matcher parts = LINE.matcher(line);
            check(parts.matches(), "no call with its answer: " + line);
            if (parts.matches()) {
                long got = answer(realm, parts.group(1), parts.group(2));
                check(got == number(parts.group(3)), "answered " + got + ": " + line);
                calls++;
            }
        }
        check(calls > 0 && calls <= 512, "calls of the example: " + calls);
    }

    private static long answer(PortraitRule realm, String name, String told) throws Exception {
        String[] words = told.isEmpty() ? new String[0] : told.split(", ");
        Object[] numbers = new Object[words.length];
        for (int i = 0; i < words.length; i++) {
            numbers[i] = words[i].startsWith("'") ? words[i].charAt(1) : Integer.parseInt(words[i]);
        }
        for (Method method : PortraitRule.class.getMethods()) {
            if (method.getName().equals(name) && method.getParameterCount() == words.length) {
                return ((Number) method.invoke(realm, numbers)).longValue();
            }
        }
        throw new IllegalArgumentException("no such call: " + name);
    }

    private static long number(String word) throws Exception {
        return word.matches("-?\\d+") ? Long.parseLong(word) : PortraitRule.class.getField(word).getInt(null);
    }

    private static void names(String text) {
        for (Method method : PortraitRule.class.getDeclaredMethods()) {
            if (Modifier.isPublic(method.getModifiers())) {
                check(text.contains("`" + method.getName() + "`"), "README.md does not name " + method.getName());
            }
        }
        for (String constant : new String[] {"`NONE` (-6)", "`UNKNOWN` (-1)", "`OUTSIDE` (-2)", "`STATE` (-3)", "`FULL` (-4)",
            "`NO` (-5)", "`LOST`"}) {
            check(text.contains(constant), "README.md does not name " + constant);
        }
    }
}
