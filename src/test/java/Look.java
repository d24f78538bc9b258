import java.util.Arrays;

/**
 * All that can be seen of a state: the questions of promises 12 to 20 at every server, and what later
 * calls answer, since what was written, who feeds whom and who sends what show in these alone.
 *
 * An object is good for 512 calls, so a state is made anew for each view of it: it takes up to
 * MOST_BEFORE calls, and the view no more than are left.
 */
final class Look {
    static final int MOST_BEFORE = 180;
    private static final int MOST_IN_VIEW = 512 - MOST_BEFORE;
    private static final int VIEWS = 8;
    private static final int SERVERS = 4;
    private static final String[] NAMES = {"a", "b", "c", "d", "e", "f", "a.b", "newest"};

    interface State {
        NewsFlood make();
    }

    interface Call {
        long on(NewsFlood x);
    }

    private final State state;
    private final int[] before;
    private int[] answers = new int[4096];
    private int size;
    private int inView;
    private NewsFlood x;
    private String change;

    private Look(State state, int[] before) {
        this.state = state;
        this.before = before;
        for (int s = 0; s < SERVERS; s++) {
            for (int view = 0; view < VIEWS; view++) {
                x = state.make();
                inView = 0;
                view(view, s);
            }
        }
    }

    /** Every answer about a state, in a fixed order. */
    static int[] at(State state) {
        Look look = new Look(state, null);
        return Arrays.copyOf(look.answers, look.size);
    }

    /** The first answer that is another one than before, or null when all are the same. */
    static String changeSince(int[] before, State after) {
        Look look = new Look(after, before);
        if (look.change == null && look.size != before.length) {
            return look.size + " answers instead of " + before.length;
        }
        return look.change;
    }

    private void ask(String question, int a, int b, int c, int answer) {
        inView++;
        if (inView > MOST_IN_VIEW) {
            throw new IllegalStateException("too many calls in one view");
        }
        if (size == answers.length) {
            answers = Arrays.copyOf(answers, 2 * size);
        }
        answers[size] = answer;
        if (before != null && change == null && (size >= before.length || before[size] != answer)) {
            String was = size < before.length ? String.valueOf(before[size]) : "not asked";
            change = question + "(" + a + ", " + b + ", " + c + ") is " + answer + ", was " + was;
        }
        size++;
    }

    private void ask(String question, int a, int b, int c, boolean answer) {
        ask(question, a, b, c, answer ? 1 : 0);
    }

    private void view(int view, int s) {
        switch (view) {
            case 0 -> questions(s);
            case 1 -> articles(s);
            case 2 -> reader(s);
            case 3 -> postsLost(s);
            case 4 -> postsFiled(s);
            case 5 -> offers(s);
            case 6 -> receiveThenExpire(s);
            default -> crashThenWrite(s);
        }
    }

    private void questions(int s) {
        for (int what = 0; what < 8; what++) {
            ask("about", s, what, 0, x.about(s, what));
        }
        for (int g = 0; g < 6; g++) {
            for (int what = 0; what < 4; what++) {
                ask("group", s, g, what, x.group(s, g, what));
            }
        }
        for (int id = 1; id <= 40; id++) {
            ask("history", s, id, 0, x.history(s, id, 0));
            ask("history", s, id, 1, x.history(s, id, 1));
        }
        backlogs(s);
    }

    /** Asks for one ID more than there are in each backlog. */
    private void backlogs(int s) {
        for (int t = 0; t < SERVERS; t++) {
            int id = 0;
            for (int k = 0; k < 25 && id != -1; k++) {
                id = x.backlog(s, t, k);
                ask("backlog", s, t, k, id);
            }
        }
    }

    private void articles(int s) {
        for (int id = 1; id <= 40; id++) {
            int first = x.article(s, id, 0);
            ask("article", s, id, 0, first);
            for (int what = 1; what < 9 && first != -1; what++) {
                ask("article", s, id, what, x.article(s, id, what));
            }
        }
    }

    private void reader(int s) {
        for (int number = 0; number < 27; number++) {
            ask("over", s, number, number, x.over(s, number, number));
        }
        ask("stat", s, 0, 0, x.stat(s, 0));
        ask("step back", s, 0, 0, x.step(s, false));
        ask("step", s, 1, 0, x.step(s, true));
        ask("step", s, 1, 0, x.step(s, true));
        ask("current", s, 7, 0, x.about(s, 7));
        for (int number = 1; number < 27; number++) {
            ask("stat", s, number, 0, x.stat(s, number));
        }
        for (int g = 0; g < 6; g++) {
            int found = x.select(s, g);
            ask("select", s, g, 0, found);
            ask("current", s, 7, 0, x.about(s, 7));
            for (int k = 0; k < found; k++) {
                ask("step", s, 1, 0, x.step(s, true));
            }
        }
    }

    /** What was written, and its size; the first crash also shows what was being received. */
    private void postsLost(int s) {
        ask("tick", 0, 0, 0, x.tick(0));
        for (int id = 1; id <= 40; id++) {
            ask("post", s, id, 0, x.post(s, id, 0));
            ask("about", s, 4, 0, x.about(s, 4));
            ask("crash", s, 0, 0, x.crash(s));
        }
    }

    /** Dates, groups and cancelled IDs of what was written, and the patterns of those that are fed. */
    private void postsFiled(int s) {
        for (int id = 1; id <= 40; id++) {
            ask("post", s, id, 0, x.post(s, id, 0));
            ask("receive", s, 8, 0, x.receive(s, 8));
        }
        questions(s);
    }

    private void offers(int s) {
        for (int t = 0; t < SERVERS; t++) {
            ask("offer", s, t, 0, x.offer(s, t));
            ask("receives", t, 5, 0, x.about(t, 5));
            ask("receive", t, 8, 0, x.receive(t, 8));
        }
        for (int t = 0; t < SERVERS; t++) {
            for (int id = 1; id <= 40; id++) {
                ask("path", t, id, 1, x.article(t, id, 1));
            }
            backlogs(t);
        }
    }

    private void receiveThenExpire(int s) {
        int id = x.about(s, 5);
        ask("receives", s, 5, 0, id);
        ask("receive", s, 8, 0, x.receive(s, 8));
        ask("path", s, id, 1, x.article(s, id, 1));
        ask("tick", 4, 0, 0, x.tick(4));
        ask("expire", s, 0, 0, x.expire(s));
        questions(s);
    }

    private void crashThenWrite(int s) {
        ask("crash", s, 0, 0, x.crash(s));
        for (int t = 0; t < SERVERS; t++) {
            ask("receives", t, 5, 0, x.about(t, 5));
            ask("missing", t, 4, 0, x.about(t, 4));
        }
        for (int id = 1; id <= 40; id++) {
            ask("write", id, 1, 0, x.write(id, 1, x.tick(0), 1, 0));
            inView++;
        }
        for (String name : NAMES) {
            ask("carry", s, name.length(), 500, x.carry(s, Checks.text(name), 500));
        }
    }
}
