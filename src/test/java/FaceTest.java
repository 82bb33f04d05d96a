import java.lang.reflect.Constructor;
import java.lang.reflect.Field;
import java.lang.reflect.Method;
import java.lang.reflect.Modifier;
import java.nio.file.Files;
import java.nio.file.Path;
import java.util.Map;
import java.util.Set;
import java.util.TreeMap;
import java.util.TreeSet;
import java.util.regex.Matcher;
import java.util.regex.Pattern;

/** The public face is the document's and no more; the source keeps to LANGUAGE.md where that is quick to see. */
public final class FaceTest {
    private static int wrong = 0;

    private static void check(boolean holds, String text) {
        if (!holds) {
            wrong++;
            System.out.println(text);
        }
    }

    public static void main(String[] args) throws Exception {
        face();
        names();
        source();
        depth();
        if (wrong != 0) {
            System.exit(1);
        }
    }

    private static String told(Method method) {
        StringBuilder text = new StringBuilder(method.getReturnType() + " " + method.getName());
        for (Class<?> type : method.getParameterTypes()) {
            text.append(' ').append(type);
        }
        return text.toString();
    }

    private static void face() {
        Set<String> want = new TreeSet<>(Set.of("int part int int int int", "int needs int int", "int say int", "int wipe",
            "int fault", "int judge int", "int done", "int state int", "int behind int", "int can", "int lacks int int",
            "int plan int int int", "int orders", "int bar int int", "int falls int int", "int alone int", "int guard int int",
            "int seen int int boolean", "int forget", "int hidden int", "int tries int", "int send int", "int makes int",
            "int quarrel int int", "int sent", "int turns int int", "long fever int int int int int", "int year int int int",
            "int image int", "int restore int", "int told int"));
        Set<String> got = new TreeSet<>();
        for (Method method : PortraitRule.class.getDeclaredMethods()) {
            if (!Modifier.isPrivate(method.getModifiers())) {
                got.add(told(method));
                check(Modifier.isPublic(method.getModifiers()), "not private, not public: " + method);
            }
        }
        check(got.equals(want), "the face's methods: " + got);
        Set<String> constants = new TreeSet<>();
        for (Field field : PortraitRule.class.getDeclaredFields()) {
            if (!Modifier.isPrivate(field.getModifiers())) {
                constants.add(field.getType() + " " + field.getName());
                check(Modifier.isStatic(field.getModifiers()) && Modifier.isFinal(field.getModifiers()), "no constant: " + field);
            }
            if (Modifier.isStatic(field.getModifiers())) {
                check(Modifier.isFinal(field.getModifiers()), "a static that is not final: " + field);
            }
        }
        check(constants.equals(new TreeSet<>(Set.of("int NONE", "int UNKNOWN", "int OUTSIDE", "int STATE", "int FULL", "int NO",
            "long LOST"))), "the constants: " + constants);
        Constructor<?>[] made = PortraitRule.class.getConstructors();
        check(made.length == 1 && made[0].getParameterCount() == 0, "the constructor");
        int flags = PortraitRule.class.getModifiers();
        check(Modifier.isPublic(flags) && Modifier.isFinal(flags), "public and final");
    }

    private static void names() {
        Set<String> open = new TreeSet<>();
        for (Method method : PortraitRule.class.getDeclaredMethods()) {
            if (Modifier.isPublic(method.getModifiers())) {
                open.add(method.getName());
            }
        }
        for (Method method : PortraitRule.class.getDeclaredMethods()) {
            check(Modifier.isPublic(method.getModifiers()) || !open.contains(method.getName()), "a private name of the face: " + method);
        }
        Class<?>[] inside = PortraitRule.class.getDeclaredClasses();
        check(inside.length <= 11, "too many classes");
        for (Class<?> one : inside) {
            check(Modifier.isStatic(one.getModifiers()), "not static: " + one);
            for (Method method : one.getDeclaredMethods()) {
                check(!open.contains(method.getName()), "a name of the face inside: " + method);
                check(method.getParameterCount() <= 7, "too many parameters: " + method);
            }
        }
    }

    private static void source() throws Exception {
        String text = Files.readString(Path.of("src/main/java/PortraitRule.java"));
        for (String no : new String[] {"import ", "package ", "->", "::", "catch", "finally", "throw", "synchronized", "assert",
            "System.out", "Thread", "random", "Exact", "volatile", "native"}) {
            check(!text.contains(no), "the source has: " + no);
        }
        for (int i = 0; i < text.length(); i++) {
            check(text.charAt(i) < 128, "a sign above 127 at " + i);
        }
        int from = -1;
        String[] lines = text.split("\n");
        for (int i = 0; i < lines.length; i++) {
            if (lines[i].matches(" {4}( {4})?(public|private) .*\\) \\{")) {
                from = i;
            }
            if (from >= 0 && lines[i].matches(" {4}( {4})?\\}")) {
                check(i - from < 60, "a long method at line " + (from + 1));
                from = -1;
            }
        }
    }

    /** Rule 11: calls go at most eight deep, the call of the face being the first; rule 8: here none calls itself. */
    private static void depth() throws Exception {
        Map<String, Set<String>> calls = calls();
        check(calls.size() > 60 && calls.containsKey("behind") && calls.containsKey("doneParts"), "methods found: " + calls.keySet());
        for (String method : calls.keySet()) {
            String chain = longest(method, calls, 0);
            check(chain.split(" ").length <= 8, "calls go too deep: " + chain);
        }
    }

    /** Each method of the source, by its name, with those of them that it calls. */
    private static Map<String, Set<String>> calls() throws Exception {
        String text = Files.readString(Path.of("src/main/java/PortraitRule.java"));
        text = text.replaceAll("(?s)/\\*.*?\\*/", "").replaceAll("//[^\n]*", "");
        Map<String, Set<String>> calls = new TreeMap<>();
        Pattern head = Pattern.compile(" {4}(?: {4})?(?:public|private) .*?(\\w+)\\(.*\\) \\{");
        Pattern call = Pattern.compile("\\b(\\w+)\\(");
        Set<String> inside = new TreeSet<>();
        for (String line : text.split("\n")) {
            Matcher begin = head.matcher(line);
            if (begin.matches()) {
                inside = calls.computeIfAbsent(begin.group(1), name -> new TreeSet<>());
                continue;
            }
            for (Matcher found = call.matcher(line); found.find();) {
                inside.add(found.group(1));
            }
        }
        for (Set<String> called : calls.values()) {
            called.retainAll(calls.keySet());
        }
        return calls;
    }

    private static String longest(String method, Map<String, Set<String>> calls, int level) {
        String best = "";
        // a method that comes back to itself would never end here
        for (String called : level < 20 ? calls.get(method) : Set.<String>of()) {
            String chain = longest(called, calls, level + 1);
            if (chain.split(" ").length > best.split(" ").length || best.isEmpty()) {
                best = chain;
            }
        }
        return best.isEmpty() ? method : method + " " + best;
    }
}
