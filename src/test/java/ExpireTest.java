/** Promise 10: tick, and promise 11: expire. */
public final class ExpireTest {
    private static final Checks checks = new Checks();

    public static void main(String[] args) {
        ticks();
        numbersGoOneByOne();
        keepIsTheLastGiven();
        entriesAreDropped();
        expiredStayKnown();
        removedLeaveBacklogs();
        receivedStays();
        refusals();
        ticksAtTheirLimits();
        keptForJustSoManyTicks();
        droppedBehindUntil();
        filedIsNeverDropped();
        removedAndDroppedInOneCall();
        checks.end();
    }

    private static NewsFlood two(int cutoff) {
        NewsFlood x = new NewsFlood(2, cutoff);
        x.carry(0, Checks.text("a"), 3);
        x.carry(0, Checks.text("b"), 6);
        x.carry(1, Checks.text("c"), 3);
        x.peer(0, 1, Checks.text("*"));
        return x;
    }

    private static void ticks() {
        NewsFlood x = two(5);
        checks.due("tick(1)", x.tick(1), 1);
        checks.due("tick(1000)", x.tick(1000), 1001);
        checks.due("tick(7)", x.tick(7), 1008);
        int[] wrong = {0, -1, 1001, Integer.MIN_VALUE, Integer.MAX_VALUE};
        for (int ticks : wrong) {
            checks.due("tick(" + ticks + ")", x.tick(ticks), 1008);
        }
        checks.due("tick(1)", x.tick(1), 1009);
    }

    private static void numbersGoOneByOne() {
        NewsFlood x = two(50);
        x.tick(10);
        Checks.file(x, 0, 1, 7, 2, 0);
        x.tick(3);
        checks.due("just kept", x.expire(0), 0);
        checks.due("number in a", x.article(0, 1, 3), 1);
        x.tick(1);
        checks.due("a expires", x.expire(0), 0);
        checks.due("number in a", x.article(0, 1, 3), 0);
        checks.due("number in b", x.article(0, 1, 4), 1);
        checks.due("articles in a", x.group(0, 0, 2), 0);
        checks.due("lowest in a", x.group(0, 0, 1), 2);
        checks.due("high of a", x.group(0, 0, 0), 1);
        checks.due("FILED", x.history(0, 1, 0), 1);
        x.tick(2);
        checks.due("b just kept", x.expire(0), 0);
        x.tick(1);
        checks.due("not before expire", x.article(0, 1, 4), 1);
        checks.due("b expires", x.expire(0), 1);
        checks.due("EXPIRED", x.history(0, 1, 0), 2);
        checks.due("until stays", x.history(0, 1, 1), 60);
        checks.due("not held", x.article(0, 1, 0), -1);
        checks.due("free blocks", x.about(0, 1), 24);
        checks.due("holds", x.about(0, 0), 0);
        checks.due("entries", x.about(0, 3), 1);
        checks.due("once", x.expire(0), 0);
        Checks.file(x, 0, 2, 3);
        checks.due("high goes on", x.article(0, 2, 3), 2);
    }

    private static void keepIsTheLastGiven() {
        NewsFlood x = two(50);
        Checks.file(x, 0, 1, 1);
        Checks.file(x, 0, 2, 1);
        Checks.file(x, 0, 3, 2);
        x.carry(0, Checks.text("a"), 20);
        x.tick(20);
        checks.due("b alone", x.expire(0), 1);
        x.tick(1);
        checks.due("both in a", x.expire(0), 2);
    }

    private static void entriesAreDropped() {
        NewsFlood x = two(5);
        Checks.file(x, 0, 1, 2, 1, 9);
        Checks.file(x, 0, 2, 4);
        x.write(3, 3, 0, 1, 0);
        checks.due("post at 1", x.post(1, 3, 0), 441);
        x.offer(0, 1);
        checks.due("REFUSED", x.history(1, 1, 0), 3);
        x.tick(5);
        x.expire(0);
        x.expire(1);
        checks.due("until is the clock: CANCELLED stays", x.history(0, 9, 0), 4);
        checks.due("until is the clock: REFUSED stays", x.history(1, 1, 0), 3);
        x.tick(1);
        checks.due("not before expire", x.history(0, 9, 0), 4);
        checks.due("nothing is removed", x.expire(0), 0);
        checks.due("nothing is removed", x.expire(1), 0);
        checks.due("CANCELLED is dropped", x.history(0, 9, 0), 0);
        checks.due("its until", x.history(0, 9, 1), -1);
        checks.due("REFUSED is dropped", x.history(1, 1, 0), 0);
        checks.due("FILED stays", x.history(0, 1, 0), 1);
        checks.due("entries of 0", x.about(0, 3), 1);
        checks.due("entries of 1", x.about(1, 3), 0);
        x.tick(1);
        checks.due("removed", x.expire(0), 1);
        checks.due("and dropped at once", x.history(0, 1, 0), 0);
        checks.due("entries of 0", x.about(0, 3), 0);
    }

    private static void expiredStayKnown() {
        NewsFlood x = two(5);
        x.write(1, 1, 10, 1, 0);
        x.post(0, 1, 0);
        x.receive(0, 1);
        x.tick(15);
        checks.due("removed", x.expire(0), 1);
        checks.due("EXPIRED", x.history(0, 1, 0), 2);
        checks.due("is known", x.post(0, 1, 0), 441);
        x.write(2, 2, 15, 1, 1);
        x.post(0, 2, 0);
        x.receive(0, 1);
        checks.due("EXPIRED becomes CANCELLED", x.history(0, 1, 0), 4);
        checks.due("until stays", x.history(0, 1, 1), 15);
    }

    private static void removedLeaveBacklogs() {
        NewsFlood x = two(5);
        Checks.file(x, 0, 1, 1);
        Checks.file(x, 0, 2, 2);
        Checks.file(x, 0, 3, 1);
        x.tick(4);
        checks.due("removed", x.expire(0), 2);
        checks.due("the one that stays", x.backlog(0, 1, 0), 2);
        checks.due("no other", x.backlog(0, 1, 1), -1);
        checks.due("blocks", x.article(0, 2, 0), 1);
        checks.due("neighbouring", x.about(0, 2), 22);
    }

    private static void receivedStays() {
        NewsFlood x = two(5);
        x.write(1, 1, 0, 2, 0);
        x.post(0, 1, 0);
        x.receive(0, 1);
        x.tick(900);
        checks.due("nothing is held", x.expire(0), 0);
        checks.due("it receives", x.about(0, 4), 1);
        checks.due("filed late", x.receive(0, 1), 0);
        checks.due("arrival", x.article(0, 1, 2), 900);
        checks.due("number", x.article(0, 1, 3), 1);
    }

    private static void refusals() {
        NewsFlood x = two(5);
        Checks.file(x, 0, 1, 1);
        x.tick(100);
        int[] noServers = {-1, 2, 3, Integer.MIN_VALUE, Integer.MAX_VALUE};
        for (int s : noServers) {
            checks.due("expire of " + s, x.expire(s), -1);
        }
        checks.due("the other", x.expire(1), 0);
        checks.due("still held", x.history(0, 1, 0), 1);
    }

    /** "it stays when ticks is not 1 .. 1000". */
    private static void ticksAtTheirLimits() {
        int[] edges = {Integer.MIN_VALUE, -1, 0, 1, 2, 999, 1000, 1001, 1002, Integer.MAX_VALUE};
        for (int ticks : edges) {
            boolean right = ticks >= 1 && ticks <= 1000;
            NewsFlood x = two(5);
            checks.due("tick(" + ticks + ") at 0", x.tick(ticks), right ? ticks : 0);
            NewsFlood y = two(5);
            y.tick(10);
            checks.due("tick(" + ticks + ") at 10", y.tick(ticks), right ? 10 + ticks : 10);
            Checks.file(y, 0, 1, 2);
            checks.due("the clock is that", y.article(0, 1, 2), right ? 10 + ticks : 10);
        }
        NewsFlood z = new NewsFlood(2, 5);
        for (int k = 1; k < 512; k++) {
            z.tick(1000);
        }
        checks.due("as far as 512 calls go", z.tick(1000), 512000);
    }

    /** "when the clock less its arrival is more than the ticks for which s keeps that group". */
    private static void keptForJustSoManyTicks() {
        int[] keeps = {1, 2, 500, 999, 1000};
        for (int keep : keeps) {
            for (int age = keep - 1; age <= keep + 1; age++) {
                NewsFlood x = new NewsFlood(2, 100);
                x.carry(0, Checks.text("a"), keep);
                x.tick(50);
                Checks.file(x, 0, 1, 1);
                x.tick(Math.min(age, 1000));
                x.tick(age - 1000);
                boolean kept = age <= keep;
                String when = "age " + age + " of " + keep;
                checks.due(when, x.expire(0), kept ? 0 : 1);
                checks.due(when + ": number", x.article(0, 1, 3), kept ? 1 : -1);
                checks.due(when + ": in the group", x.group(0, 0, 2), kept ? 1 : 0);
                checks.due(when + ": lowest", x.group(0, 0, 1), kept ? 1 : 2);
                checks.due(when + ": free", x.about(0, 1), kept ? 23 : 24);
            }
        }
    }

    /** "not FILED and whose UNTIL is less than the clock": one tick before, at, and behind UNTIL. */
    private static void droppedBehindUntil() {
        for (int clock = 14; clock <= 17; clock++) {
            NewsFlood x = two(5);
            x.carry(1, Checks.text("d"), 3);
            x.write(1, 1, 10, 1, 0);
            x.write(2, 2, 10, 1, 0);
            x.post(0, 1, 0);
            x.receive(0, 1);
            x.post(0, 2, 0);
            x.receive(0, 1);
            x.offer(0, 1);
            x.tick(4);
            checks.due("removed", x.expire(0), 1);
            x.tick(6);
            Checks.file(x, 1, 3, 8, 1, 20);
            x.tick(clock - 10);
            x.expire(0);
            x.expire(1);
            boolean stays = clock <= 15;
            checks.due("EXPIRED until 15 at " + clock, x.history(0, 1, 0), stays ? 2 : 0);
            checks.due("REFUSED until 15 at " + clock, x.history(1, 1, 0), stays ? 3 : 0);
            checks.due("CANCELLED until 15 at " + clock, x.history(1, 20, 0), stays ? 4 : 0);
            checks.due("until at " + clock, x.history(1, 20, 1), stays ? 15 : -1);
        }
    }

    private static void filedIsNeverDropped() {
        NewsFlood x = new NewsFlood(2, 1);
        x.carry(0, Checks.text("a"), 1000);
        Checks.file(x, 0, 1, 1);
        checks.due("until", x.history(0, 1, 1), 1);
        x.tick(1000);
        checks.due("expire", x.expire(0), 0);
        checks.due("FILED", x.history(0, 1, 0), 1);
        checks.due("until stays", x.history(0, 1, 1), 1);
        checks.due("entries", x.about(0, 3), 1);
        x.tick(1);
        checks.due("then it is removed", x.expire(0), 1);
        checks.due("and dropped", x.about(0, 3), 0);
    }

    /** "After all that": an entry that has just become EXPIRED is dropped too, if UNTIL is past. */
    private static void removedAndDroppedInOneCall() {
        for (int cutoff = 3; cutoff <= 5; cutoff++) {
            NewsFlood x = two(cutoff);
            Checks.file(x, 0, 1, 1);
            x.tick(4);
            checks.due("removed", x.expire(0), 1);
            checks.due("entry by cutoff " + cutoff, x.history(0, 1, 0), cutoff < 4 ? 0 : 2);
            checks.due("entries by cutoff " + cutoff, x.about(0, 3), cutoff < 4 ? 0 : 1);
        }
    }
}
