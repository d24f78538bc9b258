/** Promise 10: tick, and promise 11: expire. */
public final class ExpireTest {
    private static final Checks checks = new Checks();

    public static void main(String[] args) {
        ticks();
        numbersGoOneByOne();
        keepIsTheLastGiven();
        entriesAreDropped();
        expiredStayKnown();
        removedLeaveBacklogs();
        receivedStays();
        refusals();
        checks.end();
    }

    private static NewsFlood two(int cutoff) {
        NewsFlood x = new NewsFlood(2, cutoff);
        x.carry(0, Checks.text("a"), 3);
        x.carry(0, Checks.text("b"), 6);
        x.carry(1, Checks.text("c"), 3);
        x.peer(0, 1, Checks.text("*"));
        return x;
    }

    private static void ticks() {
        NewsFlood x = two(5);
        checks.due("tick(1)", x.tick(1), 1);
        checks.due("tick(1000)", x.tick(1000), 1001);
        checks.due("tick(7)", x.tick(7), 1008);
        int[] wrong = {0, -1, 1001, Integer.MIN_VALUE, Integer.MAX_VALUE};
        for (int ticks : wrong) {
            checks.due("tick(" + ticks + ")", x.tick(ticks), 1008);
        }
        checks.due("tick(1)", x.tick(1), 1009);
    }

    private static void numbersGoOneByOne() {
        NewsFlood x = two(50);
        x.tick(10);
        Checks.file(x, 0, 1, 7, 2, 0);
        x.tick(3);
        checks.due("just kept", x.expire(0), 0);
        checks.due("number in a", x.article(0, 1, 3), 1);
        x.tick(1);
        checks.due("a expires", x.expire(0), 0);
        checks.due("number in a", x.article(0, 1, 3), 0);
        checks.due("number in b", x.article(0, 1, 4), 1);
        checks.due("articles in a", x.group(0, 0, 2), 0);
        checks.due("lowest in a", x.group(0, 0, 1), 2);
        checks.due("high of a", x.group(0, 0, 0), 1);
        checks.due("FILED", x.history(0, 1, 0), 1);
        x.tick(2);
        checks.due("b just kept", x.expire(0), 0);
        x.tick(1);
        checks.due("not before expire", x.article(0, 1, 4), 1);
        checks.due("b expires", x.expire(0), 1);
        checks.due("EXPIRED", x.history(0, 1, 0), 2);
        checks.due("until stays", x.history(0, 1, 1), 60);
        checks.due("not held", x.article(0, 1, 0), -1);
        checks.due("free blocks", x.about(0, 1), 24);
        checks.due("holds", x.about(0, 0), 0);
        checks.due("entries", x.about(0, 3), 1);
        checks.due("once", x.expire(0), 0);
        Checks.file(x, 0, 2, 3);
        checks.due("high goes on", x.article(0, 2, 3), 2);
    }

    private static void keepIsTheLastGiven() {
        NewsFlood x = two(50);
        Checks.file(x, 0, 1, 1);
        Checks.file(x, 0, 2, 1);
        Checks.file(x, 0, 3, 2);
        x.carry(0, Checks.text("a"), 20);
        x.tick(20);
        checks.due("b alone", x.expire(0), 1);
        x.tick(1);
        checks.due("both in a", x.expire(0), 2);
    }

    private static void entriesAreDropped() {
        NewsFlood x = two(5);
        Checks.file(x, 0, 1, 2, 1, 9);
        Checks.file(x, 0, 2, 4);
        x.write(3, 3, 0, 1, 0);
        checks.due("post at 1", x.post(1, 3, 0), 441);
        x.offer(0, 1);
        checks.due("REFUSED", x.history(1, 1, 0), 3);
        x.tick(5);
        x.expire(0);
        x.expire(1);
        checks.due("until is the clock: CANCELLED stays", x.history(0, 9, 0), 4);
        checks.due("until is the clock: REFUSED stays", x.history(1, 1, 0), 3);
        x.tick(1);
        checks.due("not before expire", x.history(0, 9, 0), 4);
        checks.due("nothing is removed", x.expire(0), 0);
        checks.due("nothing is removed", x.expire(1), 0);
        checks.due("CANCELLED is dropped", x.history(0, 9, 0), 0);
        checks.due("its until", x.history(0, 9, 1), -1);
        checks.due("REFUSED is dropped", x.history(1, 1, 0), 0);
        checks.due("FILED stays", x.history(0, 1, 0), 1);
        checks.due("entries of 0", x.about(0, 3), 1);
        checks.due("entries of 1", x.about(1, 3), 0);
        x.tick(1);
        checks.due("removed", x.expire(0), 1);
        checks.due("and dropped at once", x.history(0, 1, 0), 0);
        checks.due("entries of 0", x.about(0, 3), 0);
    }

    private static void expiredStayKnown() {
        NewsFlood x = two(5);
        x.write(1, 1, 10, 1, 0);
        x.post(0, 1, 0);
        x.receive(0, 1);
        x.tick(15);
        checks.due("removed", x.expire(0), 1);
        checks.due("EXPIRED", x.history(0, 1, 0), 2);
        checks.due("is known", x.post(0, 1, 0), 441);
        x.write(2, 2, 15, 1, 1);
        x.post(0, 2, 0);
        x.receive(0, 1);
        checks.due("EXPIRED becomes CANCELLED", x.history(0, 1, 0), 4);
        checks.due("until stays", x.history(0, 1, 1), 15);
    }

    private static void removedLeaveBacklogs() {
        NewsFlood x = two(5);
        Checks.file(x, 0, 1, 1);
        Checks.file(x, 0, 2, 2);
        Checks.file(x, 0, 3, 1);
        x.tick(4);
        checks.due("removed", x.expire(0), 2);
        checks.due("the one that stays", x.backlog(0, 1, 0), 2);
        checks.due("no other", x.backlog(0, 1, 1), -1);
        checks.due("blocks", x.article(0, 2, 0), 1);
        checks.due("neighbouring", x.about(0, 2), 22);
    }

    private static void receivedStays() {
        NewsFlood x = two(5);
        x.write(1, 1, 0, 2, 0);
        x.post(0, 1, 0);
        x.receive(0, 1);
        x.tick(900);
        checks.due("nothing is held", x.expire(0), 0);
        checks.due("it receives", x.about(0, 4), 1);
        checks.due("filed late", x.receive(0, 1), 0);
        checks.due("arrival", x.article(0, 1, 2), 900);
        checks.due("number", x.article(0, 1, 3), 1);
    }

    private static void refusals() {
        NewsFlood x = two(5);
        Checks.file(x, 0, 1, 1);
        x.tick(100);
        int[] noServers = {-1, 2, 3, Integer.MIN_VALUE, Integer.MAX_VALUE};
        for (int s : noServers) {
            checks.due("expire of " + s, x.expire(s), -1);
        }
        checks.due("the other", x.expire(1), 0);
        checks.due("still held", x.history(0, 1, 0), 1);
    }
}
