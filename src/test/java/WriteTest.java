/** Promise 5: write. */
public final class WriteTest {
    private static final Checks checks = new Checks();

    public static void main(String[] args) {
        limits();
        writingAnew();
        refusedWriteChangesNothing();
        cancelsAnyOther();
        checks.end();
    }

    private static NewsFlood two() {
        NewsFlood x = new NewsFlood(2, 5);
        x.carry(0, Checks.text("a"), 5);
        x.carry(1, Checks.text("b"), 5);
        return x;
    }

    private static void due(int id, int groups, int date, int size, int cancels, boolean want) {
        NewsFlood x = two();
        String call = "write(" + id + ", " + groups + ", " + date + ", " + size + ", " + cancels + ")";
        checks.due(call, x.write(id, groups, date, size, cancels), want);
        checks.due("post behind " + call, x.post(0, id, 0) != -1, want);
    }

    private static void limits() {
        due(1, 1, 0, 1, 0, true);
        due(40, 3, 1000000, 8, 39, true);
        due(0, 1, 0, 1, 0, false);
        due(-1, 1, 0, 1, 0, false);
        due(41, 1, 0, 1, 0, false);
        due(Integer.MAX_VALUE, 1, 0, 1, 0, false);
        due(Integer.MIN_VALUE, 1, 0, 1, 0, false);
        due(1, 0, 0, 1, 0, false);
        due(1, -1, 0, 1, 0, false);
        due(1, Integer.MIN_VALUE, 0, 1, 0, false);
        due(1, 2, 0, 1, 0, true);
        due(1, 4, 0, 1, 0, false);
        due(1, 5, 0, 1, 0, false);
        due(1, 1 << 30 | 1, 0, 1, 0, false);
        due(1, Integer.MAX_VALUE, 0, 1, 0, false);
        due(1, 1, -1, 1, 0, false);
        due(1, 1, 1000001, 1, 0, false);
        due(1, 1, Integer.MIN_VALUE, 1, 0, false);
        due(1, 1, 0, 0, 0, false);
        due(1, 1, 0, -1, 0, false);
        due(1, 1, 0, 9, 0, false);
        due(1, 1, 0, 1, -1, false);
        due(1, 1, 0, 1, 41, false);
        due(1, 1, 0, 1, 40, true);
        due(1, 1, 0, 1, 1, false);
        due(40, 1, 0, 1, 40, false);
    }

    private static void writingAnew() {
        NewsFlood x = two();
        x.write(1, 1, 50, 1, 0);
        checks.due("post of one dated 50", x.post(0, 1, 0), 441);
        checks.due("anew behind 441", x.write(1, 1, 2, 3, 7), true);
        checks.due("post", x.post(0, 1, 0), 340);
        checks.due("size is the new one", x.about(0, 4), 3);
        checks.due("sent off", x.write(1, 1, 2, 3, 0), false);
        x.crash(0);
        checks.due("sent off, but lost", x.write(1, 1, 2, 3, 0), false);
        x.post(0, 1, 0);
        x.receive(0, 3);
        checks.due("sent off and filed", x.write(1, 1, 2, 3, 0), false);
        checks.due("date is the new one", x.history(0, 1, 1), 7);
        checks.due("what it cancels is the new one", x.history(0, 7, 0), 4);
        x.tick(1000);
        x.expire(0);
        checks.due("sent off and forgotten", x.write(1, 1, 1000, 3, 0), false);
        checks.due("another", x.write(2, 1, 1000, 3, 0), true);
    }

    private static void refusedWriteChangesNothing() {
        NewsFlood x = two();
        x.write(1, 1, 0, 2, 0);
        x.write(1, 1, 0, 9, 0);
        x.write(1, 4, 0, 3, 0);
        x.write(1, 1, -1, 3, 0);
        x.write(1, 1, 0, 3, 1);
        x.post(0, 1, 0);
        checks.due("size of the first", x.about(0, 4), 2);
    }

    private static void cancelsAnyOther() {
        NewsFlood x = two();
        x.write(3, 1, 0, 1, 0);
        x.post(0, 3, 0);
        x.receive(0, 1);
        checks.due("cancels 0 enters nothing", x.about(0, 3), 1);
        x.write(4, 1, 0, 1, 40);
        x.post(0, 4, 0);
        x.receive(0, 1);
        checks.due("an ID that was never written", x.history(0, 40, 0), 4);
    }
}
