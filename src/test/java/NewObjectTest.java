/** Promise 1: a new object. */
public final class NewObjectTest {
    private static final Checks checks = new Checks();

    public static void main(String[] args) {
        serversAreClamped(Integer.MIN_VALUE, 2);
        serversAreClamped(-1, 2);
        serversAreClamped(0, 2);
        serversAreClamped(1, 2);
        serversAreClamped(2, 2);
        serversAreClamped(3, 3);
        serversAreClamped(4, 4);
        serversAreClamped(5, 4);
        serversAreClamped(Integer.MAX_VALUE, 4);
        cutoffIsClamped(Integer.MIN_VALUE, 1);
        cutoffIsClamped(-1, 1);
        cutoffIsClamped(0, 1);
        cutoffIsClamped(1, 1);
        cutoffIsClamped(2, 2);
        cutoffIsClamped(37, 37);
        cutoffIsClamped(99, 99);
        cutoffIsClamped(100, 100);
        cutoffIsClamped(101, 100);
        cutoffIsClamped(Integer.MAX_VALUE, 100);
        everythingIsEmpty();
        nobodyFeedsAnybody();
        noArticleIsThere();
        objectsAreApart();
        checks.due("NONE", NewsFlood.NONE, -1);
        checks.end();
    }

    private static void serversAreClamped(int servers, int want) {
        NewsFlood x = new NewsFlood(servers, 5);
        checks.due("last of " + servers, x.about(want - 1, 1), 24);
        checks.due("behind last of " + servers, x.about(want, 1), -1);
    }

    private static void cutoffIsClamped(int cutoff, int want) {
        NewsFlood x = new NewsFlood(2, cutoff);
        x.carry(0, Checks.text("a"), 5);
        Checks.file(x, 0, 1, 1);
        checks.due("until with cutoff " + cutoff, x.history(0, 1, 1), want);
    }

    private static void everythingIsEmpty() {
        NewsFlood x = new NewsFlood(4, 5);
        int[] about = {0, 24, 24, 0, 0, 0, -1, -1};
        for (int s = 0; s < 4; s++) {
            for (int what = 0; what < 8; what++) {
                checks.due("about(" + s + ", " + what + ")", x.about(s, what), about[what]);
            }
            for (int t = 0; t < 4; t++) {
                checks.due("backlog(" + s + ", " + t + ")", x.backlog(s, t, 0), -1);
                checks.due("offer(" + s + ", " + t + ")", x.offer(s, t), -1);
            }
            for (int id = 1; id <= 40; id++) {
                checks.due("history(" + s + ", " + id + ")", x.history(s, id, 0), 0);
                checks.due("post(" + s + ", " + id + ")", x.post(s, id, 0), -1);
            }
            checks.due("group(" + s + ", 0)", x.group(s, 0, 0), -1);
        }
        checks.due("clock", x.tick(0), 0);
        checks.due("write without groups", x.write(1, 1, 0, 1, 0), false);
    }

    /** Feeding shows only when something is filed. */
    private static void nobodyFeedsAnybody() {
        NewsFlood x = new NewsFlood(4, 5);
        for (int s = 0; s < 4; s++) {
            x.carry(s, Checks.text("a"), 5);
            checks.due("file at " + s, Checks.file(x, s, s + 1, 1), 0);
            for (int t = 0; t < 4; t++) {
                checks.due("backlog(" + s + ", " + t + ")", x.backlog(s, t, 0), -1);
                checks.due("offer(" + s + ", " + t + ")", x.offer(s, t), -1);
            }
        }
    }

    private static void noArticleIsThere() {
        NewsFlood x = new NewsFlood(2, 5);
        x.carry(0, Checks.text("a"), 5);
        for (int id = 1; id <= 40; id++) {
            checks.due("post(0, " + id + ")", x.post(0, id, 0), -1);
            checks.due("article(0, " + id + ")", x.article(0, id, 0), -1);
        }
        checks.due("articles in a group", x.select(0, 0), 0);
    }

    private static void objectsAreApart() {
        NewsFlood x = new NewsFlood(2, 5);
        NewsFlood y = new NewsFlood(2, 5);
        x.carry(0, Checks.text("a"), 5);
        x.tick(9);
        Checks.file(x, 0, 1, 1);
        checks.due("clock of the other", y.tick(0), 0);
        checks.due("carry of the other", y.carry(1, Checks.text("b"), 5), 0);
        checks.due("articles of the other", y.about(0, 0), 0);
        checks.due("post at the other", y.post(0, 1, 0), -1);
    }
}
