/** Promise 6: post. */
public final class PostTest {
    private static final Checks checks = new Checks();

    public static void main(String[] args) {
        postingBegins();
        failures();
        dates();
        groups();
        room();
        fullHistory();
        refusals();
        pathsOfEachNumberOfServers();
        knownInEachWay();
        refusedBeforeEverythingElse();
        checks.end();
    }

    private static NewsFlood two(int cutoff) {
        NewsFlood x = new NewsFlood(2, cutoff);
        x.carry(0, Checks.text("a"), 1000);
        x.carry(1, Checks.text("b"), 1000);
        return x;
    }

    private static void postingBegins() {
        NewsFlood x = two(5);
        x.write(7, 1, 0, 3, 0);
        checks.due("post", x.post(0, 7, 2), 340);
        checks.due("receives", x.about(0, 5), 7);
        checks.due("blocks not stored", x.about(0, 4), 3);
        checks.due("blocks are taken at once", x.about(0, 1), 21);
        checks.due("it is not held yet", x.about(0, 0), 0);
        checks.due("it is not known yet", x.history(0, 7, 0), 0);
        checks.due("it has no number yet", x.group(0, 0, 0), 0);
        x.receive(0, 3);
        checks.due("path", x.article(0, 7, 1), 3);
        NewsFlood y = two(5);
        y.write(1, 2, 0, 1, 0);
        y.post(1, 1, 0);
        y.receive(1, 1);
        checks.due("path of no servers, and the server", y.article(1, 1, 1), 2);
        NewsFlood z = two(5);
        z.write(1, 2, 0, 1, 0);
        z.post(1, 1, 2);
        z.receive(1, 1);
        checks.due("path that had the server", z.article(1, 1, 1), 2);
    }

    private static void failures() {
        NewsFlood x = two(5);
        x.write(1, 1, 0, 2, 0);
        x.write(2, 1, 0, 2, 1);
        x.post(0, 1, 0);
        checks.due("while it receives another", x.post(0, 2, 0), 441);
        checks.due("while it receives the same", x.post(0, 1, 0), 441);
        checks.due("blocks not stored", x.about(0, 4), 2);
        checks.due("free blocks", x.about(0, 1), 22);
        checks.due("441 does not send off", x.write(2, 1, 0, 2, 1), true);
        x.receive(0, 2);
        checks.due("FILED", x.post(0, 1, 0), 441);
        x.post(0, 2, 0);
        x.receive(0, 2);
        checks.due("is cancelled", x.history(0, 1, 0), 4);
        checks.due("CANCELLED", x.post(0, 1, 0), 441);
        checks.due("nothing is received", x.about(0, 5), 0);
    }

    private static void date(int cutoff, int clock, int date, int want) {
        NewsFlood x = two(cutoff);
        if (clock > 0) {
            x.tick(clock);
        }
        x.write(1, 1, date, 1, 0);
        checks.due("date " + date + " at " + clock + " with " + cutoff, x.post(0, 1, 0), want);
    }

    private static void dates() {
        date(5, 0, 0, 340);
        date(5, 0, 10, 340);
        date(5, 0, 11, 441);
        date(5, 0, 1000000, 441);
        date(5, 100, 95, 340);
        date(5, 100, 94, 441);
        date(5, 100, 110, 340);
        date(5, 100, 111, 441);
        date(100, 100, 0, 340);
        date(100, 101, 0, 441);
    }

    private static void groups() {
        NewsFlood x = two(5);
        x.write(1, 2, 0, 1, 0);
        x.write(2, 3, 0, 1, 0);
        checks.due("a group not carried", x.post(0, 1, 0), 441);
        checks.due("one of two carried", x.post(0, 2, 0), 340);
        checks.due("the other server", x.post(1, 1, 0), 340);
    }

    private static void room() {
        NewsFlood x = two(5);
        Checks.file(x, 0, 1, 1, 8, 0);
        Checks.file(x, 0, 2, 1, 4, 0);
        Checks.file(x, 0, 3, 1, 8, 0);
        Checks.file(x, 0, 4, 1, 1, 2);
        checks.due("free blocks", x.about(0, 1), 7);
        checks.due("neighbouring", x.about(0, 2), 4);
        x.write(5, 1, 0, 5, 0);
        checks.due("not enough neighbours", x.post(0, 5, 0), 441);
        checks.due("can be written still", x.write(5, 1, 0, 4, 0), true);
        checks.due("just enough", x.post(0, 5, 0), 340);
        x.receive(0, 4);
        checks.due("lies in the gap", x.article(0, 5, 0), 8);
        checks.due("and at the end", Checks.file(x, 0, 6, 1, 3, 0), 0);
        checks.due("first block there", x.article(0, 6, 0), 21);
        checks.due("all are taken", x.about(0, 1), 0);
        checks.due("no room", Checks.file(x, 0, 7, 1, 1, 0), 441);
    }

    private static void fullHistory() {
        NewsFlood x = two(1);
        for (int id = 1; id <= 12; id++) {
            checks.due("file " + id, Checks.file(x, 0, id, 1, 1, id + 20), 0);
        }
        checks.due("entries", x.about(0, 3), 24);
        checks.due("free blocks", x.about(0, 1), 12);
        checks.due("a full history", Checks.file(x, 0, 13, 1, 1, 0), 441);
        checks.due("an ID that is known", Checks.file(x, 0, 21, 1, 1, 0), 441);
        x.tick(2);
        x.expire(0);
        checks.due("entries that stay", x.about(0, 3), 12);
        checks.due("room again", Checks.file(x, 0, 13, 1, 1, 0), 0);
    }

    private static void refusals() {
        NewsFlood x = two(5);
        x.write(1, 1, 0, 1, 0);
        int[] noServers = {-1, 2, 3, Integer.MIN_VALUE, Integer.MAX_VALUE};
        for (int s : noServers) {
            checks.due("post at " + s, x.post(s, 1, 0), -1);
        }
        int[] noIds = {-1, 0, 41, Integer.MIN_VALUE, Integer.MAX_VALUE, 2};
        for (int id : noIds) {
            checks.due("post of " + id, x.post(0, id, 0), -1);
        }
        int[] noPaths = {-1, 4, 5, Integer.MIN_VALUE, Integer.MAX_VALUE};
        for (int path : noPaths) {
            checks.due("path " + path, x.post(0, 1, path), -1);
        }
        checks.due("nothing is received", x.about(0, 5), 0);
        checks.due("path 3", x.post(0, 1, 3), 340);
        checks.due("refused before 441", x.post(0, 1, 4), -1);
        checks.due("refused before 441", x.post(0, 2, 0), -1);
        NewsFlood y = new NewsFlood(4, 5);
        y.carry(0, Checks.text("a"), 5);
        y.write(1, 1, 0, 1, 0);
        checks.due("path 16 of four", y.post(0, 1, 16), -1);
        checks.due("path 15 of four", y.post(0, 1, 15), 340);
    }

    /** "path is not 0 .. 2 to the power n less 1"; "its path will be that of the poster and s". */
    private static void pathsOfEachNumberOfServers() {
        for (int n = 2; n <= 4; n++) {
            for (int path = -1; path <= 17; path++) {
                boolean right = path >= 0 && path < 1 << n;
                int s = n - 1;
                NewsFlood x = new NewsFlood(n, 5);
                x.carry(s, Checks.text("a"), 5);
                x.write(1, 1, 0, 1, 0);
                String call = "path " + path + " of " + n;
                checks.due(call, x.post(s, 1, path), right ? 340 : -1);
                x.receive(s, 1);
                checks.due(call + ", then", x.article(s, 1, 1), right ? path | 1 << s : -1);
            }
        }
    }

    /** "it knows the ID": an entry of each kind is enough, until it is dropped. */
    private static void knownInEachWay() {
        NewsFlood x = new NewsFlood(2, 5);
        x.carry(0, Checks.text("a"), 1);
        x.carry(1, Checks.text("a"), 9);
        x.carry(1, Checks.text("b"), 9);
        x.peer(1, 0, Checks.text("b"));
        x.write(1, 1, 10, 1, 0);
        x.write(2, 2, 10, 1, 0);
        x.write(3, 1, 10, 1, 4);
        x.write(4, 1, 10, 1, 0);
        x.post(1, 2, 0);
        x.receive(1, 1);
        checks.due("offer", x.offer(1, 0), 439);
        x.post(0, 1, 0);
        x.receive(0, 1);
        checks.due("FILED", x.post(0, 1, 0), 441);
        x.tick(2);
        x.expire(0);
        checks.due("is EXPIRED", x.history(0, 1, 0), 2);
        checks.due("EXPIRED", x.post(0, 1, 0), 441);
        x.carry(0, Checks.text("b"), 9);
        checks.due("is REFUSED", x.history(0, 2, 0), 3);
        checks.due("REFUSED", x.post(0, 2, 0), 441);
        x.post(0, 3, 0);
        x.receive(0, 1);
        checks.due("is CANCELLED", x.history(0, 4, 0), 4);
        checks.due("CANCELLED", x.post(0, 4, 0), 441);
        x.tick(6);
        x.expire(0);
        checks.due("dropped", x.history(0, 4, 0), 0);
        checks.due("no more CANCELLED", x.post(0, 4, 0), 340);
    }

    /** Each reason for NONE, where each reason for 441 holds too. */
    private static void refusedBeforeEverythingElse() {
        NewsFlood receives = two(5);
        receives.write(1, 1, 0, 1, 0);
        receives.post(0, 1, 0);
        NewsFlood knows = two(5);
        Checks.file(knows, 0, 1, 1);
        NewsFlood uses = two(5);
        uses.write(1, 2, 50, 1, 0);
        NewsFlood full = two(5);
        for (int id = 2; id <= 4; id++) {
            Checks.file(full, 0, id, 1, 8, 0);
        }
        full.write(1, 1, 0, 1, 0);
        NewsFlood[] all = {receives, knows, uses, full};
        for (NewsFlood x : all) {
            checks.due("441 is due", x.post(0, 1, 0), 441);
            checks.due("no server", x.post(2, 1, 0), -1);
            checks.due("no server", x.post(-1, 1, 0), -1);
            checks.due("no ID", x.post(0, 0, 0), -1);
            checks.due("no ID", x.post(0, 41, 0), -1);
            checks.due("not written", x.post(0, 40, 0), -1);
            checks.due("no path", x.post(0, 1, 4), -1);
            checks.due("no path", x.post(0, 1, -1), -1);
        }
    }
}
