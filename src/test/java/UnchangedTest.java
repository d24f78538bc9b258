/**
 * Calls that answer something and yet change nothing: the refused ones of the reader (promises 12 to 14),
 * 441 and 431, wrong ticks, and every question, right or wrong. All that can be seen is as before.
 */
public final class UnchangedTest {
    private static final Checks checks = new Checks();
    private static final int MIN = Integer.MIN_VALUE;
    private static final int MAX = Integer.MAX_VALUE;
    private static final int[] NO_SERVERS = {MIN, -1, Situations.SERVERS, Situations.SERVERS + 1, 32, 64, MAX};
    private static final long STAR = Checks.text("*");
    private static final long A = Checks.text("a");

    public static void main(String[] args) {
        selectRefused();
        stepRefused();
        statRefused();
        failedPosts();
        laterOffers();
        wrongTicks();
        countsOfTheReader();
        matchesIsAQuestion();
        questionsAboutNoServer();
        questionsAboutServers();
        checks.end();
    }

    private static void unchanged(String call, Look.Call made, long want) {
        for (Situations.Situation situation : Situations.ALL) {
            situation.unchanged(checks, call, made, want);
        }
    }

    private static void busy(String call, Look.Call made, long want) {
        Situations.BUSY.unchanged(checks, call, made, want);
    }

    private static void selectRefused() {
        for (int s : NO_SERVERS) {
            unchanged("select(" + s + ", 0)", x -> x.select(s, 0), -1);
        }
        int[] noGroups = {MIN, -1, 6, 7, 32, MAX};
        for (int g : noGroups) {
            unchanged("select(0, " + g + ")", x -> x.select(0, g), -1);
            unchanged("select(2, " + g + ")", x -> x.select(2, g), -1);
        }
        busy("select(0, 2), carried elsewhere", x -> x.select(0, 2), -1);
        busy("select(1, 1), carried elsewhere", x -> x.select(1, 1), -1);
        busy("select(2, 4), carried elsewhere", x -> x.select(2, 4), -1);
    }

    private static void stepRefused() {
        for (int s : NO_SERVERS) {
            unchanged("step(" + s + ", true)", x -> x.step(s, true), -1);
            unchanged("step(" + s + ", false)", x -> x.step(s, false), -1);
        }
        for (int s = 1; s < Situations.SERVERS; s++) {
            int at = s;
            unchanged("step(" + s + ", true) without a current", x -> x.step(at, true), -1);
            unchanged("step(" + s + ", false) without a current", x -> x.step(at, false), -1);
        }
        busy("step above the highest", x -> x.step(0, true), -1);
        Situations.FULL.unchanged(checks, "step below the lowest", x -> x.step(0, false), -1);
    }

    private static void statRefused() {
        for (int s : NO_SERVERS) {
            unchanged("stat(" + s + ", 0)", x -> x.stat(s, 0), -1);
            unchanged("stat(" + s + ", 1)", x -> x.stat(s, 1), -1);
        }
        unchanged("stat(2, 1), nothing selected", x -> x.stat(2, 1), -1);
        unchanged("stat(2, 0), nothing selected", x -> x.stat(2, 0), -1);
        unchanged("stat(1, 1), no article", x -> x.stat(1, 1), -1);
        unchanged("stat(1, 0), no current", x -> x.stat(1, 0), -1);
        unchanged("stat(1, -1), no current", x -> x.stat(1, -1), -1);
        int[] noNumbers = {MIN, -2, -1, 2, 4, 5, MAX};
        for (int number : noNumbers) {
            busy("stat(0, " + number + ")", x -> x.stat(0, number), -1);
        }
        Situations.FULL.unchanged(checks, "stat behind high", x -> x.stat(0, 13), -1);
    }

    /** "441, changing nothing": it receives, it knows the ID, it can't use it, it lacks room. */
    private static void failedPosts() {
        busy("post of another to a receiver", x -> x.post(0, 11, 0), 441);
        busy("post of the same to a receiver", x -> x.post(0, 10, 7), 441);
        busy("post to one that receives from another", x -> x.post(1, 11, 0), 441);
        busy("post of a held one", x -> x.post(2, 5, 0), 441);
        busy("post of one too far ahead", x -> x.post(2, 12, 0), 441);
        busy("post of one in no group of it", x -> x.post(2, 2, 0), 441);
        Situations.FULL.unchanged(checks, "post to a full history", x -> x.post(0, 16, 0), 441);
        Situations.FULL.unchanged(checks, "post to a full spool", x -> x.post(1, 16, 0), 441);
        Situations.FULL.unchanged(checks, "post of a FILED one", x -> x.post(0, 1, 0), 441);
    }

    /** "431, nothing changes": it receives, or it lacks room. */
    private static void laterOffers() {
        busy("offer to a receiver", x -> x.offer(0, 1), 431);
        Situations.FULL.unchanged(checks, "offer to a full spool", x -> x.offer(0, 1), 431);
    }

    /** The clock "stays when ticks is not 1 .. 1000". */
    private static void wrongTicks() {
        int[] wrong = {MIN, -1000, -1, 0, 1001, 1002, MAX};
        for (int ticks : wrong) {
            Situations.EMPTY.unchanged(checks, "tick(" + ticks + ")", x -> x.tick(ticks), 0);
            busy("tick(" + ticks + ")", x -> x.tick(ticks), 11);
            Situations.FULL.unchanged(checks, "tick(" + ticks + ")", x -> x.tick(ticks), 7);
        }
    }

    private static void countsOfTheReader() {
        for (int s : NO_SERVERS) {
            unchanged("over(" + s + ")", x -> x.over(s, MIN, MAX), 0);
        }
        unchanged("over with nothing selected", x -> x.over(2, MIN, MAX), 0);
        unchanged("over an empty group", x -> x.over(1, MIN, MAX), 0);
        busy("over", x -> x.over(0, MIN, MAX), 2);
        busy("over the wrong way", x -> x.over(0, MAX, MIN), 0);
    }

    private static void matchesIsAQuestion() {
        unchanged("matches(*, a)", x -> x.matches(STAR, A) ? 1 : 0, 1);
        unchanged("matches(*, newest)", x -> x.matches(STAR, Checks.text("newest")) ? 1 : 0, 1);
        unchanged("matches(*, 0)", x -> x.matches(STAR, 0) ? 1 : 0, 0);
        unchanged("matches(0, a)", x -> x.matches(0, A) ? 1 : 0, 0);
        unchanged("matches(-1, -1)", x -> x.matches(-1L, -1L) ? 1 : 0, 0);
    }

    private static void questionsAboutNoServer() {
        for (int s : NO_SERVERS) {
            unchanged("group(" + s + ", 0, 0)", x -> x.group(s, 0, 0), -1);
            unchanged("history(" + s + ", 1, 0)", x -> x.history(s, 1, 0), -1);
            unchanged("article(" + s + ", 1, 0)", x -> x.article(s, 1, 0), -1);
            unchanged("backlog(" + s + ", 1, 0)", x -> x.backlog(s, 1, 0), -1);
            unchanged("backlog(0, " + s + ", 0)", x -> x.backlog(0, s, 0), -1);
            unchanged("about(" + s + ", 1)", x -> x.about(s, 1), -1);
        }
    }

    private static void questionsAboutServers() {
        int[] edges = {MIN, -1, 0, 1, 2, 3, 4, 5, 6, 7, 8, 9, 40, 41, MAX};
        for (int k : edges) {
            if (k < 0 || k > 3) {
                unchanged("group(0, 0, " + k + ")", x -> x.group(0, 0, k), -1);
            }
            if (k < 0 || k > 5) {
                unchanged("group(0, " + k + ", 0)", x -> x.group(0, k, 0), -1);
            }
            if (k < 0 || k > 1) {
                unchanged("history(0, 1, " + k + ")", x -> x.history(0, 1, k), -1);
            }
            if (k < 1 || k > 40) {
                unchanged("history(0, " + k + ", 0)", x -> x.history(0, k, 0), -1);
                unchanged("history(0, " + k + ", 1)", x -> x.history(0, k, 1), -1);
                unchanged("article(0, " + k + ", 0)", x -> x.article(0, k, 0), -1);
            }
            if (k < 0 || k > 8) {
                unchanged("article(0, 1, " + k + ")", x -> x.article(0, 1, k), -1);
            }
            if (k < 0 || k > 7) {
                unchanged("about(0, " + k + ")", x -> x.about(0, k), -1);
            }
            unchanged("backlog(0, 0, " + k + ")", x -> x.backlog(0, 0, k), -1);
            unchanged("backlog(2, 0, " + k + ")", x -> x.backlog(2, 0, k), -1);
        }
        busy("group(0, 0, 0)", x -> x.group(0, 0, 0), 3);
        busy("history(0, 3, 0)", x -> x.history(0, 3, 0), 4);
        busy("article(0, 1, 0)", x -> x.article(0, 1, 0), 3);
        busy("backlog(0, 1, 1)", x -> x.backlog(0, 1, 1), 4);
        busy("backlog(0, 1, 3)", x -> x.backlog(0, 1, 3), -1);
        busy("about(0, 4)", x -> x.about(0, 4), 3);
    }
}
