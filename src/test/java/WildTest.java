import java.lang.reflect.InvocationTargetException;
import java.lang.reflect.Method;
import java.util.ArrayList;
import java.util.Arrays;
import java.util.List;
import java.util.Map;
import java.util.Random;
import java.util.TreeMap;

/**
 * Any call with any arguments, drawn with fixed seeds and strewn into runs of sensible ones: none throws,
 * and each answers what the model answers.
 */
public final class WildTest {
    private static final Checks checks = new Checks();
    private static final int RUNS = 1000;
    private static final int CALLS = 512;
    /** The calls, each as often as its weight says, with the greatest sensible number of each int. */
    private static final String[] SENSIBLE = {
        "2 carry 3 60", "2 peer 3 3", "1 matches", "5 write 15 3 0 3 15", "5 post 3 15 3", "8 offer 3 3",
        "8 receive 3 4", "1 crash 3", "1 tick 3", "1 expire 3", "2 select 3 2", "2 step 3", "2 stat 3 6",
        "2 over 3 6 6", "1 group 3 2 3", "1 history 3 15 1", "2 article 3 15 8", "1 backlog 3 3 3", "1 about 3 7"};
    private static final int[] EDGES = {
        Integer.MIN_VALUE, Integer.MIN_VALUE + 1, -1000001, -65, -2, -1, 0, 1, 2, 3, 4, 5, 6, 7, 8, 9, 10, 11, 15, 16,
        23, 24, 25, 31, 32, 33, 39, 40, 41, 63, 64, 65, 99, 100, 101, 127, 128, 255, 256, 999, 1000, 1001, 65536,
        999999, 1000000, 1000001, 1 << 30, Integer.MAX_VALUE - 1, Integer.MAX_VALUE};
    private static final String[] TEXTS = {"a", "b", "a.b", "*", "*", "a,b", "*,!a"};
    private static final String[] ODD_TEXTS = {
        "abcdefgh", "........", "zzzzzzzz", "?", "!", ",", "!*,a", "????????", "********", ",,,,,,,,", "!!a",
        "a*b?", "A", "a b", "\u00e4", "\u00ff\u00ff", ""};

    private final Random random;
    private final NewsFlood x;
    private final Model model;
    private final String made;

    private WildTest(long seed) {
        random = new Random(seed);
        int servers = random.nextInt(4) == 0 ? wildNumber() : 2 + random.nextInt(3);
        int cutoff = random.nextInt(4) == 0 ? wildNumber() : 1 + random.nextInt(20);
        x = new NewsFlood(servers, cutoff);
        model = new Model(servers, cutoff);
        made = "NewsFlood(" + servers + ", " + cutoff + "), call ";
    }

    public static void main(String[] args) throws Exception {
        List<String> calls = new ArrayList<>();
        for (String sensible : SENSIBLE) {
            String[] words = sensible.split(" ", 2);
            for (int k = 0; k < Integer.parseInt(words[0]); k++) {
                calls.add(words[1]);
            }
        }
        Map<Long, Integer> seen = new TreeMap<>();
        for (int run = 0; run < RUNS && checks.areAllAsDue(); run++) {
            new WildTest(run).run(calls, seen);
        }
        // Runs that come nowhere would prove nothing.
        for (long answer : new long[] {340, 441, 335, 431, 438, 439}) {
            checks.due("answers " + answer + " are drawn", seen.getOrDefault(answer, 0) > 50, true);
        }
        checks.end();
    }

    private void run(List<String> calls, Map<Long, Integer> seen) throws Exception {
        for (int k = 0; k < CALLS && checks.areAllAsDue(); k++) {
            String[] words = calls.get(random.nextInt(calls.size())).split(" ");
            Method method = methodOf(words[0]);
            Object[] given = arguments(method, words);
            String call = made + k + ": " + method.getName() + Arrays.toString(given);
            Method same = Model.class.getDeclaredMethod(method.getName(), method.getParameterTypes());
            long answer = answerOf(method, x, given);
            checks.due(call, answer, answerOf(same, model, given));
            if (words[0].equals("post") || words[0].equals("offer")) {
                seen.merge(answer, 1, Integer::sum);
            }
        }
    }

    private static Method methodOf(String name) {
        for (Method method : NewsFlood.class.getMethods()) {
            if (method.getName().equals(name)) {
                return method;
            }
        }
        throw new IllegalStateException("no call " + name);
    }

    private static long answerOf(Method method, Object on, Object[] given) throws Exception {
        try {
            Object answer = method.invoke(on, given);
            return answer instanceof Boolean yes ? (yes ? 1 : 0) : (Integer) answer;
        } catch (InvocationTargetException thrown) {
            thrown.getCause().printStackTrace(System.out);
            return on instanceof NewsFlood ? Long.MIN_VALUE : Long.MAX_VALUE;
        }
    }

    /** The words behind a call's name are the greatest sensible number of each int, in their order. */
    private Object[] arguments(Method method, String[] words) {
        Class<?>[] types = method.getParameterTypes();
        Object[] given = new Object[types.length];
        boolean wild = random.nextInt(8) == 0;
        int next = 1;
        for (int k = 0; k < types.length; k++) {
            boolean wildHere = wild && random.nextBoolean();
            if (types[k] == boolean.class) {
                given[k] = random.nextBoolean();
            } else if (types[k] == long.class) {
                given[k] = wildHere ? wildText() : Checks.text(TEXTS[random.nextInt(TEXTS.length)]);
            } else {
                int most = Integer.parseInt(words[next++]);
                int sensible = most == 0 ? model.clock + random.nextInt(6) - 2 : random.nextInt(most + 1);
                given[k] = wildHere ? wildNumber() : sensible;
            }
        }
        return given;
    }

    private int wildNumber() {
        return random.nextInt(4) == 0 ? random.nextInt() : EDGES[random.nextInt(EDGES.length)];
    }

    private long wildText() {
        long text = Checks.text(ODD_TEXTS[random.nextInt(ODD_TEXTS.length)]);
        return switch (random.nextInt(3)) {
            case 0 -> text;
            case 1 -> text | 1L << random.nextInt(64);
            default -> random.nextLong();
        };
    }
}
