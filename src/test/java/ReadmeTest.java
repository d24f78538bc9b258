import java.lang.reflect.Method;
import java.nio.file.Files;
import java.nio.file.Path;
import java.util.ArrayList;
import java.util.List;
import java.util.Set;
import java.util.TreeSet;
import java.util.regex.Matcher;
import java.util.regex.Pattern;

/** README.md tells the truth: its calls answer what stands behind them, and its tables leave nothing out. */
public final class ReadmeTest {
    private static final Checks checks = new Checks();
    private static final Pattern MADE = Pattern.compile("NewsFlood news = new NewsFlood\\((.*)\\); *// .*");
    private static final Pattern CALL = Pattern.compile("news\\.(\\w+)\\((.*)\\); *// (\\S+): .*");
    private static final Pattern ARGUMENT = Pattern.compile("text\\(\"([^\"]*)\"\\)|-?\\d+|true|false");

    public static void main(String[] args) throws Exception {
        List<String> lines = Files.readAllLines(Path.of("README.md"));
        callsAnswer(lines);
        tablesAreWhole(lines);
        checks.end();
    }

    private static void callsAnswer(List<String> lines) throws Exception {
        NewsFlood news = null;
        int calls = 0;
        for (String line : lines) {
            Matcher made = MADE.matcher(line);
            Matcher call = CALL.matcher(line);
            if (made.matches()) {
                List<Object> numbers = arguments(made.group(1));
                news = new NewsFlood(((Long) numbers.get(0)).intValue(), ((Long) numbers.get(1)).intValue());
            } else if (call.matches()) {
                calls++;
                String answer = String.valueOf(answerOf(news, call.group(1), arguments(call.group(2))));
                checks.due(line.trim() + " (answered: " + answer + ")", answer.equals(call.group(3)), true);
            } else {
                checks.due("a line that is not understood: " + line, line.startsWith("news."), false);
            }
        }
        checks.due("calls of README.md", calls > 20, true);
    }

    private static List<Object> arguments(String list) {
        List<Object> found = new ArrayList<>();
        Matcher argument = ARGUMENT.matcher(list);
        while (argument.find()) {
            String word = argument.group();
            if (argument.group(1) != null) {
                found.add(Checks.text(argument.group(1)));
            } else if (word.equals("true") || word.equals("false")) {
                found.add(word.equals("true"));
            } else {
                found.add(Long.valueOf(word));
            }
        }
        return found;
    }

    private static Object answerOf(NewsFlood news, String name, List<Object> arguments) throws Exception {
        for (Method method : NewsFlood.class.getMethods()) {
            if (method.getName().equals(name)) {
                Object[] given = arguments.toArray();
                for (int k = 0; k < given.length; k++) {
                    if (method.getParameterTypes()[k] == int.class) {
                        given[k] = ((Long) given[k]).intValue();
                    }
                }
                return method.invoke(news, given);
            }
        }
        return "no such call";
    }

    private static void tablesAreWhole(List<String> lines) throws Exception {
        Set<String> rows = new TreeSet<>();
        for (String line : lines) {
            Matcher row = Pattern.compile("\\| `?(\\w+).*").matcher(line);
            if (row.matches()) {
                rows.add(row.group(1));
            }
        }
        for (Method method : NewsFlood.class.getDeclaredMethods()) {
            if (java.lang.reflect.Modifier.isPublic(method.getModifiers())) {
                checks.due("README.md tells of " + method.getName(), rows.contains(method.getName()), true);
            }
        }
        try (var files = Files.list(Path.of("src/test/java"))) {
            for (Path file : files.toList()) {
                String name = file.getFileName().toString().replace(".java", "");
                if (name.endsWith("Test")) {
                    checks.due("README.md tells of " + name, rows.contains(name), true);
                }
            }
        }
    }
}
