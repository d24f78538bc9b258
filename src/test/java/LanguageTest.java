import java.lang.reflect.Constructor;
import java.lang.reflect.Executable;
import java.lang.reflect.Field;
import java.lang.reflect.Modifier;
import java.nio.file.Files;
import java.nio.file.Path;
import java.util.ArrayList;
import java.util.Arrays;
import java.util.List;
import java.util.Map;
import java.util.Set;
import java.util.TreeMap;
import java.util.TreeSet;
import java.util.regex.Matcher;
import java.util.regex.Pattern;

/** What a test can see of the rules of LANGUAGE.md, in the compiled class and in the words of its file. */
public final class LanguageTest {
    private static final Checks checks = new Checks();
    private static final Set<Class<?>> CONSTANTS =
        Set.of(int.class, long.class, boolean.class, char.class, String.class);
    private static final Set<String> NOT_ALLOWED = Set.of(
        "package", "import", "throw", "throws", "try", "catch", "finally", "synchronized", "assert", "protected",
        "equals", "hashCode", "toString", "double", "float");
    /** What the class uses now; rule 4 lets it use more, and what is new here must be looked up there. */
    private static final Set<String> LIBRARY = Set.of("Math.max", "Math.min");
    private static final Set<String> NO_METHODS = Set.of("if", "for", "while", "switch", "return", "new");
    /** The file is laid out so that a method begins at one of these depths and ends at the same. */
    private static final Pattern HEAD = Pattern.compile("((?: {4}){1,2})(?:[\\w\\[\\]]+ )*(\\w+)\\(([^()]*)\\) \\{");

    private static final class Part {
        final String name;
        final int parameters;
        final List<String> lines = new ArrayList<>();

        Part(String name, int parameters) {
            this.name = name;
            this.parameters = parameters;
        }
    }

    public static void main(String[] args) throws Exception {
        String code = withoutComments(Files.readString(Path.of("src/main/java/NewsFlood.java")));
        List<Class<?>> classes = new ArrayList<>(Arrays.asList(NewsFlood.class.getDeclaredClasses()));
        classes.add(NewsFlood.class);
        List<Part> parts = partsOf(code);
        wordsAreAllowed(code, classes);
        classesAreSmall(classes);
        methodsAreSmall(parts, classes);
        callsAreShallow(parts);
        checks.end();
    }

    private static String withoutComments(String file) {
        return file.replaceAll("(?s)/\\*.*?\\*/", "").replaceAll("//[^\n]*", "").replaceAll("'[^'\n]+'", "' '");
    }

    private static void wordsAreAllowed(String code, List<Class<?>> classes) {
        Set<String> own = new TreeSet<>();
        for (Class<?> one : classes) {
            own.add(one.getSimpleName());
        }
        Matcher word = Pattern.compile("\\w+").matcher(code);
        while (word.find()) {
            String found = word.group();
            checks.due("\"" + found + "\" stands in the class", NOT_ALLOWED.contains(found), false);
            if (found.matches("[A-Z]\\w*[a-z]\\w*") && !own.contains(found)) {
                String use = code.substring(word.start()).split("[^\\w.]", 2)[0];
                checks.due("\"" + use + "\" stands in the class", LIBRARY.contains(use), true);
            }
        }
        for (String sign : List.of("->", "::", "@", "\"")) {
            checks.due(sign + " stands in the class", code.contains(sign), false);
        }
    }

    private static void classesAreSmall(List<Class<?>> classes) {
        checks.due("classes", classes.size() <= 12, true);
        for (Class<?> one : classes) {
            int fields = 0;
            for (Field field : one.getDeclaredFields()) {
                boolean constant = Modifier.isStatic(field.getModifiers());
                fields += constant ? 0 : 1;
                if (constant) {
                    checks.due(field + " is final", Modifier.isFinal(field.getModifiers()), true);
                    checks.due(field + " is a constant", CONSTANTS.contains(field.getType()), true);
                }
            }
            checks.due(one + " has few fields", fields <= 20, true);
        }
    }

    private static List<Part> partsOf(String code) {
        List<Part> parts = new ArrayList<>();
        Part open = null;
        String end = "";
        for (String line : code.split("\n")) {
            Matcher head = HEAD.matcher(line);
            if (open == null && head.matches() && !NO_METHODS.contains(head.group(2))) {
                int parameters = head.group(3).isEmpty() ? 0 : head.group(3).split(",").length;
                open = new Part(head.group(2), parameters);
                parts.add(open);
                end = head.group(1) + "}";
            }
            if (open != null) {
                open.lines.add(line);
                open = line.equals(end) ? null : open;
            }
        }
        return parts;
    }

    private static void methodsAreSmall(List<Part> parts, List<Class<?>> classes) {
        Set<String> makers = new TreeSet<>();
        int written = 0;
        for (Class<?> one : classes) {
            List<Executable> all = new ArrayList<>(Arrays.asList(one.getDeclaredMethods()));
            for (Constructor<?> constructor : one.getDeclaredConstructors()) {
                makers.add(one.getSimpleName());
                all.add(constructor);
            }
            for (Executable executable : all) {
                written += executable.isSynthetic() ? 0 : 1;
            }
        }
        // Text is never made, so that its constructor is not written; all else must have been found.
        checks.due("methods and constructors found in the file", parts.size(), written - 1);
        for (Part part : parts) {
            checks.due(part.name + " has few parameters", part.parameters <= 7, true);
            checks.due(part.name + " is short", part.lines.size() <= 60, true);
            boolean makes = String.join("\n", part.lines).matches("(?s).*\\bnew\\b.*");
            checks.due(part.name + " makes an object, and is no constructor", makes && !makers.contains(part.name), false);
        }
    }

    /** No recursion, and calls go at most eight deep; methods of one name are taken together. */
    private static void callsAreShallow(List<Part> parts) {
        Map<String, Set<String>> calls = new TreeMap<>();
        for (Part part : parts) {
            calls.put(part.name, new TreeSet<>());
        }
        for (Part part : parts) {
            String body = String.join("\n", part.lines.subList(1, part.lines.size()));
            Matcher called = Pattern.compile("(\\w+)\\(").matcher(body);
            while (called.find()) {
                if (calls.containsKey(called.group(1))) {
                    calls.get(part.name).add(called.group(1));
                }
            }
        }
        for (String name : calls.keySet()) {
            checks.due("the calls below " + name + " are few", depthOf(name, calls, 0) <= 8, true);
        }
    }

    private static int depthOf(String name, Map<String, Set<String>> calls, int above) {
        int deepest = 0;
        for (String called : above > 8 ? Set.<String>of() : calls.get(name)) {
            deepest = Math.max(deepest, depthOf(called, calls, above + 1));
        }
        return deepest + 1;
    }
}
