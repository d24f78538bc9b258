/** Promise 5: write. */
public final class WriteTest {
    private static final Checks checks = new Checks();
    private static final int MIN = Integer.MIN_VALUE;
    private static final int MAX = Integer.MAX_VALUE;

    public static void main(String[] args) {
        ids();
        groups();
        dates();
        sizes();
        cancels();
        sentOffByTheFirst340();
        writingAnew();
        refusedWriteChangesNothing();
        cancelsAnyOther();
        checks.end();
    }

    private static NewsFlood two() {
        NewsFlood x = new NewsFlood(2, 5);
        x.carry(0, Checks.text("a"), 5);
        x.carry(1, Checks.text("b"), 5);
        return x;
    }

    private static void due(int id, int groups, int date, int size, int cancels, boolean want) {
        NewsFlood x = two();
        String call = "write(" + id + ", " + groups + ", " + date + ", " + size + ", " + cancels + ")";
        checks.due(call, x.write(id, groups, date, size, cancels), want);
        checks.due("post behind " + call, x.post(0, id, 0) != -1, want);
    }

    /** "id is not 1 .. 40". */
    private static void ids() {
        int[] right = {1, 2, 39, 40};
        for (int id : right) {
            due(id, 1, 0, 1, 0, true);
        }
        int[] wrong = {MIN, -1, 0, 41, 42, MAX};
        for (int id : wrong) {
            due(id, 1, 0, 1, 0, false);
        }
    }

    /** "groups is less than 1 or has a bit that stands for no group"; there are two groups here. */
    private static void groups() {
        int[] right = {1, 2, 3};
        for (int groups : right) {
            due(1, groups, 0, 1, 0, true);
        }
        int[] wrong = {MIN, MIN | 1, -1, 0, 4, 5, 7, 8, 32, 64, 1 << 30 | 1, MAX};
        for (int groups : wrong) {
            due(1, groups, 0, 1, 0, false);
        }
    }

    /** "date is not 0 .. 1000000". */
    private static void dates() {
        int[] right = {0, 1, 999999, 1000000};
        for (int date : right) {
            due(1, 1, date, 1, 0, true);
        }
        int[] wrong = {MIN, -1, 1000001, MAX};
        for (int date : wrong) {
            due(1, 1, date, 1, 0, false);
        }
    }

    /** "size is not 1 .. 8". */
    private static void sizes() {
        int[] right = {1, 2, 7, 8};
        for (int size : right) {
            due(1, 1, 0, size, 0, true);
        }
        int[] wrong = {MIN, -1, 0, 9, 10, MAX};
        for (int size : wrong) {
            due(1, 1, 0, size, 0, false);
        }
    }

    /** "cancels is not 0 .. 40 or is id". */
    private static void cancels() {
        int[] right = {0, 1, 6, 8, 39, 40};
        for (int cancels : right) {
            due(7, 1, 0, 1, cancels, true);
        }
        int[] wrong = {MIN, -1, 7, 41, 42, MAX};
        for (int cancels : wrong) {
            due(7, 1, 0, 1, cancels, false);
        }
        due(1, 1, 0, 1, 1, false);
        due(40, 1, 0, 1, 40, false);
        due(40, 3, 1000000, 8, 39, true);
    }

    /** "SENT OFF when a post() of it was answered with 340 for the first time": not by 441 or NONE. */
    private static void sentOffByTheFirst340() {
        NewsFlood x = two();
        x.write(1, 2, 0, 1, 0);
        checks.due("refused post", x.post(0, 1, 4), -1);
        checks.due("anew behind NONE", x.write(1, 2, 0, 2, 0), true);
        checks.due("failed post", x.post(0, 1, 0), 441);
        checks.due("anew behind 441", x.write(1, 2, 0, 3, 0), true);
        checks.due("post", x.post(1, 1, 0), 340);
        checks.due("anew behind 340", x.write(1, 2, 0, 4, 0), false);
        checks.due("anew in all other ways", x.write(1, 1, 5, 8, 9), false);
        checks.due("size of the last that was right", x.about(1, 4), 3);
        checks.due("another while it is received", x.write(2, 2, 0, 4, 0), true);
    }

    private static void writingAnew() {
        NewsFlood x = two();
        x.write(1, 1, 50, 1, 0);
        checks.due("post of one dated 50", x.post(0, 1, 0), 441);
        checks.due("anew behind 441", x.write(1, 1, 2, 3, 7), true);
        checks.due("post", x.post(0, 1, 0), 340);
        checks.due("size is the new one", x.about(0, 4), 3);
        checks.due("sent off", x.write(1, 1, 2, 3, 0), false);
        x.crash(0);
        checks.due("sent off, but lost", x.write(1, 1, 2, 3, 0), false);
        x.post(0, 1, 0);
        x.receive(0, 3);
        checks.due("sent off and filed", x.write(1, 1, 2, 3, 0), false);
        checks.due("date is the new one", x.history(0, 1, 1), 7);
        checks.due("what it cancels is the new one", x.history(0, 7, 0), 4);
        x.tick(1000);
        x.expire(0);
        checks.due("sent off and forgotten", x.write(1, 1, 1000, 3, 0), false);
        checks.due("another", x.write(2, 1, 1000, 3, 0), true);
    }

    private static void refusedWriteChangesNothing() {
        NewsFlood x = two();
        x.write(1, 1, 0, 2, 0);
        x.write(1, 1, 0, 9, 0);
        x.write(1, 4, 0, 3, 0);
        x.write(1, 1, -1, 3, 0);
        x.write(1, 1, 0, 3, 1);
        x.post(0, 1, 0);
        checks.due("size of the first", x.about(0, 4), 2);
    }

    private static void cancelsAnyOther() {
        NewsFlood x = two();
        x.write(3, 1, 0, 1, 0);
        x.post(0, 3, 0);
        x.receive(0, 1);
        checks.due("cancels 0 enters nothing", x.about(0, 3), 1);
        x.write(4, 1, 0, 1, 40);
        x.post(0, 4, 0);
        x.receive(0, 1);
        checks.due("an ID that was never written", x.history(0, 40, 0), 4);
    }
}
