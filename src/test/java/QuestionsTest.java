/** Promises 16 to 18 and 20: group, history, article and about. */
public final class QuestionsTest {
    private static final Checks checks = new Checks();
    private static final int[] NO_SERVERS = {-1, 2, 3, Integer.MIN_VALUE, Integer.MAX_VALUE};

    public static void main(String[] args) {
        groups();
        histories();
        articles();
        servers();
        lastIdAndLeastTicks();
        noFreeBlock();
        everyWhat();
        everyKindOfEntry();
        checks.end();
    }

    /** Server 0 has ID 4 in groups 0 and 1 with 3 blocks, ID 6 in group 1 with 2; 9 is cancelled. */
    private static NewsFlood some() {
        NewsFlood x = new NewsFlood(2, 50);
        x.carry(0, Checks.text("a"), 10);
        x.carry(0, Checks.text("b"), 20);
        x.carry(1, Checks.text("c"), 30);
        x.tick(2);
        Checks.file(x, 0, 4, 3, 3, 0);
        x.tick(5);
        Checks.file(x, 0, 6, 2, 2, 9);
        return x;
    }

    private static void groups() {
        NewsFlood x = some();
        int[][] want = {{1, 1, 1, 10}, {2, 1, 2, 20}, {-1, -1, -1, -1}};
        for (int g = 0; g < 3; g++) {
            for (int what = 0; what < 4; what++) {
                checks.due("group(0, " + g + ", " + what + ")", x.group(0, g, what), want[g][what]);
            }
        }
        checks.due("lowest of an empty group", x.group(1, 2, 1), 1);
        Checks.file(x, 0, 7, 2, 1, 4);
        checks.due("lowest when the first is gone", x.group(0, 1, 1), 2);
        checks.due("lowest when all are gone", x.group(0, 0, 1), 2);
        checks.due("high when all are gone", x.group(0, 0, 0), 1);
        checks.due("count when all are gone", x.group(0, 0, 2), 0);
        int[] noWhats = {-1, 4, 5, Integer.MIN_VALUE, Integer.MAX_VALUE};
        for (int what : noWhats) {
            checks.due("group(0, 0, " + what + ")", x.group(0, 0, what), -1);
        }
        int[] noGroups = {-1, 2, 3, 5, 6, 7, Integer.MIN_VALUE, Integer.MAX_VALUE};
        for (int g : noGroups) {
            checks.due("group(0, " + g + ", 0)", x.group(0, g, 0), -1);
        }
        for (int s : NO_SERVERS) {
            checks.due("group(" + s + ", 0, 0)", x.group(s, 0, 0), -1);
        }
    }

    private static void histories() {
        NewsFlood x = some();
        checks.due("FILED", x.history(0, 4, 0), 1);
        checks.due("until", x.history(0, 4, 1), 52);
        checks.due("CANCELLED", x.history(0, 9, 0), 4);
        checks.due("until", x.history(0, 9, 1), 57);
        checks.due("none", x.history(0, 5, 0), 0);
        checks.due("until of none", x.history(0, 5, 1), -1);
        checks.due("at the other", x.history(1, 4, 0), 0);
        checks.due("ID 1", x.history(0, 1, 0), 0);
        checks.due("ID 40", x.history(0, 40, 0), 0);
        int[] noWhats = {-1, 2, 3, Integer.MIN_VALUE, Integer.MAX_VALUE};
        for (int what : noWhats) {
            checks.due("history(0, 4, " + what + ")", x.history(0, 4, what), -1);
        }
        int[] noIds = {-1, 0, 41, Integer.MIN_VALUE, Integer.MAX_VALUE};
        for (int id : noIds) {
            checks.due("history(0, " + id + ", 0)", x.history(0, id, 0), -1);
            checks.due("history(0, " + id + ", 1)", x.history(0, id, 1), -1);
        }
        for (int s : NO_SERVERS) {
            checks.due("history(" + s + ", 4, 0)", x.history(s, 4, 0), -1);
        }
    }

    private static void articles() {
        NewsFlood x = some();
        int[] want = {0, 1, 2, 1, 1, 0, 0, 0, 0, -1};
        int[] wantNext = {3, 1, 7, 0, 2, 0, 0, 0, 0, -1};
        for (int what = 0; what < want.length; what++) {
            checks.due("article(0, 4, " + what + ")", x.article(0, 4, what), want[what]);
            checks.due("article(0, 6, " + what + ")", x.article(0, 6, what), wantNext[what]);
            checks.due("article(0, 9, " + what + ")", x.article(0, 9, what), -1);
            checks.due("article(1, 4, " + what + ")", x.article(1, 4, what), -1);
        }
        int[] noWhats = {-1, 9, 10, Integer.MIN_VALUE, Integer.MAX_VALUE};
        for (int what : noWhats) {
            checks.due("article(0, 4, " + what + ")", x.article(0, 4, what), -1);
        }
        int[] noIds = {-1, 0, 41, Integer.MIN_VALUE, Integer.MAX_VALUE};
        for (int id : noIds) {
            checks.due("article(0, " + id + ", 0)", x.article(0, id, 0), -1);
        }
        for (int s : NO_SERVERS) {
            checks.due("article(" + s + ", 4, 0)", x.article(s, 4, 0), -1);
        }
        x.write(7, 1, 7, 2, 0);
        x.post(0, 7, 0);
        checks.due("not while it is received", x.article(0, 7, 0), -1);
    }

    private static void servers() {
        NewsFlood x = some();
        x.write(7, 1, 7, 4, 4);
        x.post(0, 7, 0);
        x.receive(0, 1);
        x.select(0, 1);
        x.stat(0, 2);
        int[] want = {2, 15, 15, 3, 3, 7, 1, 2, -1, -1};
        for (int what = 0; what < want.length; what++) {
            checks.due("about(0, " + what + ")", x.about(0, what), want[what]);
        }
        x.receive(0, 3);
        int[] wantThen = {2, 18, 15, 4, 0, 0, 1, 2};
        for (int what = 0; what < wantThen.length; what++) {
            checks.due("then about(0, " + what + ")", x.about(0, what), wantThen[what]);
        }
        int[] noWhats = {-1, 8, 9, Integer.MIN_VALUE, Integer.MAX_VALUE};
        for (int what : noWhats) {
            checks.due("about(0, " + what + ")", x.about(0, what), -1);
        }
        for (int s : NO_SERVERS) {
            for (int what = 0; what < 8; what++) {
                checks.due("about(" + s + ", " + what + ")", x.about(s, what), -1);
            }
        }
    }

    /** ID 40 goes from server 1 to server 0, in a group that is kept for one tick. */
    private static void lastIdAndLeastTicks() {
        NewsFlood x = new NewsFlood(2, 1);
        x.carry(0, Checks.text("a"), 1);
        x.carry(1, Checks.text("a"), 1);
        x.peer(1, 0, Checks.text("a"));
        Checks.file(x, 1, 1, 1);
        Checks.file(x, 1, 40, 1);
        checks.due("backlog for server 0", x.backlog(1, 0, 1), 40);
        x.select(1, 0);
        checks.due("step to 40", x.step(1, true), 40);
        checks.due("stat of 40", x.stat(1, 2), 40);
        checks.due("over 40", x.over(1, 2, 2), 1);
        checks.due("step back to 1", x.step(1, false), 1);
        checks.due("holds", x.about(1, 0), 2);
        Checks.file(x, 1, 2, 1, 1, 1);
        checks.due("1 left the backlog", x.backlog(1, 0, 0), 40);
        checks.due("select", x.select(1, 0), 2);
        checks.due("lowest", x.about(1, 7), 2);
        checks.due("offer", x.offer(1, 0), 335);
        x.receive(0, 1);
        checks.due("number at server 0", x.article(0, 40, 3), 1);
        x.tick(2);
        checks.due("expire", x.expire(0), 1);
        checks.due("expired and dropped", x.history(0, 40, 0), 0);
        checks.due("expire", x.expire(1), 2);
        checks.due("the backlog is empty", x.backlog(1, 0, 0), -1);
    }

    private static void noFreeBlock() {
        NewsFlood x = some();
        Checks.file(x, 0, 1, 1, 8, 0);
        Checks.file(x, 0, 2, 1, 8, 0);
        Checks.file(x, 0, 3, 1, 3, 0);
        checks.due("free blocks", x.about(0, 1), 0);
        checks.due("neighbouring", x.about(0, 2), 0);
    }

    /** "NONE for another what": each what from below the first to above the last. */
    private static void everyWhat() {
        for (int what = -3; what <= 12; what++) {
            NewsFlood x = some();
            x.select(0, 0);
            checks.due("group " + what, x.group(0, 0, what) != -1, what >= 0 && what <= 3);
            checks.due("history " + what, x.history(0, 4, what) != -1, what == 0 || what == 1);
            checks.due("history of none " + what, x.history(0, 5, what), what == 0 ? 0 : -1);
            checks.due("article " + what, x.article(0, 4, what) != -1, what >= 0 && what <= 8);
            checks.due("article not held " + what, x.article(0, 5, what), -1);
            checks.due("about " + what, x.about(0, what) != -1, what >= 0 && what <= 7);
            int g = what;
            checks.due("group " + g + " at 0", x.group(0, g, 0) != -1, g == 0 || g == 1);
            checks.due("group " + g + " at 1", x.group(1, g, 0), g == 2 ? 0 : -1);
        }
    }

    /** "s ... does not hold the article": an entry that is not FILED, or one that is received. */
    private static void everyKindOfEntry() {
        NewsFlood x = new NewsFlood(2, 50);
        x.carry(0, Checks.text("a"), 1);
        x.carry(0, Checks.text("b"), 100);
        x.carry(1, Checks.text("c"), 100);
        x.peer(0, 1, Checks.text("b"));
        Checks.file(x, 0, 1, 1);
        x.tick(2);
        x.expire(0);
        Checks.file(x, 0, 2, 2, 1, 3);
        x.offer(0, 1);
        x.write(4, 2, 2, 3, 0);
        x.post(0, 4, 0);
        int[] kinds = {0, 2, 1, 4, 0};
        for (int id = 1; id <= 4; id++) {
            checks.due("kind of " + id, x.history(0, id, 0), kinds[id]);
            checks.due("until of " + id, x.history(0, id, 1) != -1, id < 4);
            for (int what = 0; what <= 8; what++) {
                checks.due("article " + id + ", " + what, x.article(0, id, what) != -1, id == 2);
            }
        }
        checks.due("REFUSED", x.history(1, 2, 0), 3);
        checks.due("until", x.history(1, 2, 1), 52);
        checks.due("not held", x.article(1, 2, 0), -1);
        checks.due("held at 0", x.about(0, 0), 1);
        checks.due("held at 1", x.about(1, 0), 0);
        checks.due("entries of 0", x.about(0, 3), 3);
        checks.due("entries of 1", x.about(1, 3), 1);
        checks.due("free", x.about(0, 1), 20);
    }
}
