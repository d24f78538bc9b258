import java.util.ArrayList;
import java.util.List;
import java.util.Map;
import java.util.Random;
import java.util.TreeMap;

/**
 * Runs of calls drawn with fixed seeds: every answer must be that of the model. Now and then all state
 * is compared too, on objects that are led through the same calls: an object is good for 512 calls.
 */
public final class RandomRunsTest {
    private static final Checks checks = new Checks();
    private static final int RUNS = 1000;
    private static final int CALLS = 400;
    private static final int MOST_CALLS = 512;
    /** Counted among the answers, so that runs which never fill a server don't pass for good ones. */
    private static final int FULL_HISTORY = -24;
    private static final int FULL_SPOOL = -25;
    private static final String[] NAMES = {"a", "b", "a.b", "a.c", "b.a", "abcdefgh", "c", "A", ""};
    private static final String[] PATTERNS =
        {"*", "*", "*", "a*", "*,!a", "a.?", "!a,*", "b,a.b", "*.*", ",", "?", "*,!*.*", "a b"};

    private final Random random;
    private final NewsFlood x;
    private final Model model;
    private final List<Look.Call> calls = new ArrayList<>();
    /** Such a run fills histories: many cancels, small articles, and entries that stay long. */
    private final boolean filling;
    private final int servers;
    private final int cutoff;
    private final int mostSize;
    private final int mostIds;
    private final int mostTicks;
    private final int mostKeep;
    private final Map<Integer, Integer> seen;
    private String last = "";
    private NewsFlood again;
    private int callsOfAgain;

    private RandomRunsTest(long seed, Map<Integer, Integer> seen) {
        random = new Random(seed);
        this.seen = seen;
        filling = random.nextInt(3) == 0;
        servers = 2 + random.nextInt(filling ? 2 : 3);
        cutoff = filling ? 60 + random.nextInt(50) : 1 + random.nextInt(random.nextBoolean() ? 8 : 110);
        x = new NewsFlood(servers, cutoff);
        model = new Model(servers, cutoff);
        mostSize = filling || random.nextInt(3) == 0 ? 1 : random.nextBoolean() ? 3 : 8;
        mostIds = filling || random.nextBoolean() ? 40 : 12;
        mostTicks = random.nextBoolean() ? 2 : 9;
        mostKeep = random.nextBoolean() ? 6 : 60;
    }

    public static void main(String[] args) {
        Map<Integer, Integer> seen = new TreeMap<>();
        for (int run = 0; run < RUNS && checks.areAllAsDue(); run++) {
            new RandomRunsTest(run, seen).run(run);
        }
        int[] answers = {340, 441, 335, 431, 438, 439, FULL_HISTORY, FULL_SPOOL};
        for (int answer : answers) {
            checks.due("answers " + answer + " are drawn", seen.getOrDefault(answer, 0) > 50, true);
        }
        checks.end();
    }

    private void run(int run) {
        for (int g = 0; g < 3; g++) {
            for (int s = 0; s < servers; s++) {
                if (random.nextInt(4) > 0) {
                    carry(s, Checks.text(NAMES[g]), 1 + random.nextInt(mostKeep));
                }
                peer(s, random.nextInt(servers), Checks.text(PATTERNS[random.nextInt(4)]));
            }
        }
        while (calls.size() < CALLS && checks.areAllAsDue()) {
            call();
            if (random.nextInt(20) == 0) {
                compareState("run " + run + " behind call " + calls.size() + ", " + last);
            }
        }
    }

    private void due(String call, Look.Call made, long want) {
        last = call;
        calls.add(made);
        long got = made.on(x);
        seen.merge((int) got, 1, Integer::sum);
        checks.due(call, got, want);
    }

    private void due(String call, Look.Call made, boolean want) {
        due(call, made, want ? 1 : 0);
    }

    private int server() {
        return random.nextInt(40) == 0 ? random.nextInt(7) - 2 : random.nextInt(servers);
    }

    private int id() {
        return random.nextInt(40) == 0 ? random.nextInt(60) - 10 : 1 + random.nextInt(mostIds);
    }

    private int number() {
        return random.nextInt(12) - 2;
    }

    private void call() {
        switch (random.nextInt(30)) {
            case 0 -> carry(server(), Checks.text(NAMES[random.nextInt(NAMES.length)]), random.nextInt(mostKeep));
            case 1 -> {
                boolean none = random.nextInt(4) == 0;
                peer(server(), server(), none ? 0 : Checks.text(PATTERNS[random.nextInt(PATTERNS.length)]));
            }
            case 2, 3 -> write(id());
            case 4, 5, 6, 7, 8 -> {
                int id = id();
                int s = server();
                write(id);
                post(s, id);
                if (filling) {
                    receive(s, 8);
                }
            }
            case 9, 10 -> post(server(), id());
            case 11, 12, 13, 14, 15 -> offer(server(), server());
            case 16, 17, 18, 19, 20, 21 -> receive(server(), random.nextInt(2 * mostSize + 1));
            case 22 -> crash(random.nextInt(3) == 0 ? server() : -1);
            case 23 -> tick(random.nextInt(mostTicks + 1));
            case 24 -> expire(server());
            case 25 -> select(server(), random.nextInt(7) - 1);
            case 26, 27 -> step(server(), random.nextBoolean());
            case 28 -> stat(server(), number());
            default -> over(server(), number(), number());
        }
    }

    private void carry(int s, long name, int keep) {
        due("carry(" + s + ", " + name + ", " + keep + ")", y -> y.carry(s, name, keep), model.carry(s, name, keep));
    }

    private void peer(int s, int t, long pattern) {
        due("peer(" + s + ", " + t + ", " + pattern + ")",
            y -> y.peer(s, t, pattern) ? 1 : 0, model.peer(s, t, pattern));
    }

    private void write(int id) {
        int groups = random.nextInt(10) == 0 ? random.nextInt(70) - 2 : 1 + random.nextInt(7);
        int date = model.clock + random.nextInt(random.nextInt(4) == 0 ? 14 : 3) - random.nextInt(3);
        int size = random.nextInt(30) == 0 ? random.nextInt(12) - 1 : 1 + random.nextInt(mostSize);
        int cancels = random.nextInt(3) == 0 || filling ? id() : 0;
        due("write(" + id + ", " + groups + ", " + date + ", " + size + ", " + cancels + ")",
            y -> y.write(id, groups, date, size, cancels) ? 1 : 0, model.write(id, groups, date, size, cancels));
    }

    private void post(int s, int id) {
        int path = random.nextInt(3) > 0 ? 0 : random.nextInt(18) - 1;
        due("post(" + s + ", " + id + ", " + path + ")", y -> y.post(s, id, path), model.post(s, id, path));
    }

    private void offer(int s, int t) {
        due("offer(" + s + ", " + t + ")", y -> y.offer(s, t), model.offer(s, t));
    }

    private void receive(int s, int blocks) {
        due("receive(" + s + ", " + blocks + ")", y -> y.receive(s, blocks), model.receive(s, blocks));
    }

    private void crash(int s) {
        due("crash(" + s + ")", y -> y.crash(s), model.crash(s));
    }

    private void tick(int ticks) {
        due("tick(" + ticks + ")", y -> y.tick(ticks), model.tick(ticks));
    }

    private void expire(int s) {
        due("expire(" + s + ")", y -> y.expire(s), model.expire(s));
    }

    private void select(int s, int g) {
        due("select(" + s + ", " + g + ")", y -> y.select(s, g), model.select(s, g));
    }

    private void step(int s, boolean forward) {
        due("step(" + s + ", " + forward + ")", y -> y.step(s, forward), model.step(s, forward));
    }

    private void stat(int s, int number) {
        due("stat(" + s + ", " + number + ")", y -> y.stat(s, number), model.stat(s, number));
    }

    private void over(int s, int from, int to) {
        due("over(" + s + ", " + from + ", " + to + ")", y -> y.over(s, from, to), model.over(s, from, to));
    }

    private void compareState(String when) {
        callsOfAgain = MOST_CALLS;
        for (int s = 0; s < servers; s++) {
            seen.merge(FULL_HISTORY, model.about(s, 3) == 24 ? 1 : 0, Integer::sum);
            seen.merge(FULL_SPOOL, model.about(s, 1) == 0 ? 1 : 0, Integer::sum);
            for (int what = 0; what < 9; what++) {
                same(when, "about", s, what, 0, again().about(s, what), model.about(s, what));
                for (int g = 0; g < 6; g++) {
                    same(when, "group", s, g, what, again().group(s, g, what), model.group(s, g, what));
                }
            }
            for (int id = 1; id <= 40; id++) {
                same(when, "history", s, id, 0, again().history(s, id, 0), model.history(s, id, 0));
                same(when, "history", s, id, 1, again().history(s, id, 1), model.history(s, id, 1));
                int whats = model.article(s, id, 0) == -1 ? 1 : 9;
                for (int what = 0; what < whats; what++) {
                    same(when, "article", s, id, what, again().article(s, id, what), model.article(s, id, what));
                }
            }
            compareBacklogs(when, s);
        }
    }

    private void compareBacklogs(String when, int s) {
        for (int t = 0; t < servers; t++) {
            int id = 0;
            for (int k = 0; id != -1; k++) {
                id = model.backlog(s, t, k);
                same(when, "backlog", s, t, k, again().backlog(s, t, k), id);
            }
        }
    }

    /** An object behind the same calls that can be asked once more. */
    private NewsFlood again() {
        if (callsOfAgain == MOST_CALLS) {
            again = new NewsFlood(servers, cutoff);
            for (Look.Call call : calls) {
                call.on(again);
            }
            callsOfAgain = calls.size();
        }
        callsOfAgain++;
        return again;
    }

    /** Joins the text of the question only when it is needed: there are millions of them. */
    private static void same(String when, String question, int a, int b, int c, int got, int want) {
        if (got != want) {
            checks.due(when + ": " + question + "(" + a + ", " + b + ", " + c + ")", got, want);
        }
    }
}
