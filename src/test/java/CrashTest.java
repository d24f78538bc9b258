/** Promise 9: crash. */
public final class CrashTest {
    private static final Checks checks = new Checks();

    public static void main(String[] args) {
        receiverCrashes();
        senderCrashes();
        othersGoOn();
        allElseStays();
        refusals();
        lostAsIfItHadNeverBegun();
        lostAtEachNumberOfBlocks();
        theSameArticleFromOneSender();
        lostThoughTheSenderRemovedIt();
        lostThoughTheSenderFeedsNoMore();
        lastOfManyReceivers();
        checks.end();
    }

    private static NewsFlood four() {
        NewsFlood x = new NewsFlood(4, 50);
        for (int s = 0; s < 4; s++) {
            x.carry(s, Checks.text("a"), 1000);
            for (int t = 0; t < 4; t++) {
                x.peer(s, t, Checks.text("*"));
            }
        }
        return x;
    }

    private static void receiverCrashes() {
        NewsFlood x = four();
        Checks.file(x, 0, 1, 1, 5, 0);
        x.offer(0, 1);
        x.receive(1, 4);
        checks.due("crash", x.crash(1), 1);
        checks.due("receives", x.about(1, 5), 0);
        checks.due("missing", x.about(1, 4), 0);
        checks.due("free blocks", x.about(1, 1), 24);
        checks.due("no entry", x.about(1, 3), 0);
        checks.due("no number", x.group(1, 0, 0), 0);
        checks.due("still in the backlog", x.backlog(0, 1, 0), 1);
        checks.due("receive", x.receive(1, 1), -1);
        checks.due("offer again", x.offer(0, 1), 335);
        checks.due("from the beginning", x.about(1, 4), 5);
        x.write(2, 1, 0, 3, 0);
        x.post(3, 2, 0);
        checks.due("a post is lost", x.crash(3), 1);
        checks.due("and can be posted again", x.post(3, 2, 0), 340);
    }

    private static void senderCrashes() {
        NewsFlood x = four();
        Checks.file(x, 0, 1, 1, 2, 0);
        Checks.file(x, 0, 2, 1, 2, 0);
        x.offer(0, 1);
        x.receive(1, 2);
        x.offer(0, 1);
        x.offer(0, 2);
        x.offer(1, 3);
        x.write(3, 1, 0, 4, 0);
        x.post(0, 3, 0);
        checks.due("its own and two of others", x.crash(0), 3);
        checks.due("0 receives nothing", x.about(0, 5), 0);
        checks.due("1 receives nothing", x.about(1, 5), 0);
        checks.due("2 receives nothing", x.about(2, 5), 0);
        checks.due("3 receives from 1", x.about(3, 5), 1);
        checks.due("blocks of 0", x.about(0, 1), 20);
        checks.due("blocks of 1", x.about(1, 1), 22);
        checks.due("blocks of 2", x.about(2, 1), 24);
        checks.due("nothing more to lose", x.crash(0), 0);
        checks.due("the backlog of 0 for 1", x.backlog(0, 1, 0), 2);
        checks.due("the backlog of 0 for 2", x.backlog(0, 2, 0), 1);
        x.peer(1, 3, 0);
        checks.due("also where it feeds no more", x.crash(1), 1);
        Checks.file(x, 0, 4, 1);
        x.offer(0, 2);
        x.offer(0, 3);
        checks.due("the same article at two", x.crash(0), 2);
    }

    private static void othersGoOn() {
        NewsFlood x = four();
        x.write(1, 1, 0, 3, 0);
        x.post(1, 1, 0);
        x.write(2, 1, 0, 3, 0);
        x.post(0, 2, 0);
        checks.due("posts at others are not lost", x.crash(2), 0);
        checks.due("1 receives", x.receive(1, 3), 0);
        checks.due("0 receives", x.receive(0, 3), 0);
        x.offer(0, 1);
        x.receive(1, 1);
        checks.due("a server that takes no part", x.crash(2), 0);
        checks.due("1 goes on", x.about(1, 4), 2);
        x.crash(1);
        x.write(3, 1, 0, 1, 0);
        x.post(1, 3, 0);
        checks.due("what was sent before is forgotten", x.crash(0), 0);
        checks.due("1 receives its post", x.about(1, 5), 3);
    }

    private static void allElseStays() {
        NewsFlood x = four();
        x.tick(5);
        Checks.file(x, 0, 1, 1, 2, 9);
        x.offer(0, 1);
        x.receive(1, 2);
        x.select(0, 0);
        x.select(1, 0);
        checks.due("crash", x.crash(0), 0);
        checks.due("selected", x.about(0, 6), -1);
        checks.due("current", x.about(0, 7), -1);
        checks.due("selected at the other", x.about(1, 6), 0);
        checks.due("current at the other", x.about(1, 7), 1);
        checks.due("held", x.article(0, 1, 2), 5);
        checks.due("number", x.article(0, 1, 3), 1);
        checks.due("CANCELLED", x.history(0, 9, 0), 4);
        checks.due("backlog", x.backlog(0, 2, 0), 1);
        checks.due("free blocks", x.about(0, 1), 22);
        checks.due("clock", x.tick(0), 5);
        checks.due("ticks of the group", x.group(0, 0, 3), 1000);
        checks.due("still fed", Checks.file(x, 0, 2, 1), 0);
        checks.due("still fed", x.backlog(0, 3, 1), 2);
        checks.due("step", x.step(0, true), -1);
        checks.due("stat", x.stat(0, 1), -1);
        checks.due("over", x.over(0, 0, 9), 0);
    }

    private static void refusals() {
        NewsFlood x = four();
        x.select(0, 0);
        int[] noServers = {-1, 4, 5, Integer.MIN_VALUE, Integer.MAX_VALUE};
        for (int s : noServers) {
            checks.due("crash of " + s, x.crash(s), -1);
        }
        x.write(1, 1, 0, 3, 0);
        x.post(0, 1, 0);
        checks.due("crash of -1 while one posts", x.crash(-1), -1);
        checks.due("nothing was lost", x.about(0, 5), 1);
        checks.due("selected stays", x.about(0, 6), 0);
    }

    /** An article of 5 blocks waits at server 0 for all others, and one was posted and lost at 3. */
    private static NewsFlood waiting() {
        NewsFlood x = four();
        x.tick(3);
        Checks.file(x, 0, 1, 1, 5, 9);
        Checks.file(x, 1, 2, 1, 3, 0);
        x.write(3, 1, 3, 4, 2);
        x.post(3, 3, 1);
        x.crash(3);
        return x;
    }

    /** "where it is lost, its blocks are free, and nothing else of it was there". */
    private static void lostAsIfItHadNeverBegun() {
        Situations.Situation waiting = new Situations.Situation("waiting", CrashTest::waiting);
        waiting.unchanged(checks, "nothing to lose", x -> x.crash(0), 0);
        waiting.unchanged(checks, "offer, crash of the receiver", x -> x.offer(0, 2) + x.crash(2), 336);
        waiting.unchanged(checks, "offer, crash of the sender", x -> x.offer(0, 2) + x.crash(0), 336);
        waiting.unchanged(checks, "4 of 5, crash of the receiver",
            x -> x.offer(0, 2) + x.receive(2, 4) + x.crash(2), 337);
        waiting.unchanged(checks, "4 of 5, crash of the sender",
            x -> x.offer(0, 2) + x.receive(2, 4) + x.crash(0), 337);
        waiting.unchanged(checks, "one at two, crash of the sender",
            x -> x.offer(0, 2) + x.offer(0, 3) + x.receive(3, 1) + x.crash(0), 335 + 335 + 4 + 2);
        waiting.unchanged(checks, "post, crash", x -> x.post(3, 3, 7) + x.receive(3, 3) + x.crash(3), 342);
    }

    private static void lostAtEachNumberOfBlocks() {
        for (int size = 1; size <= 8; size++) {
            for (int stored = 0; stored <= size; stored++) {
                for (int s = 0; s < 2; s++) {
                    NewsFlood x = four();
                    Checks.file(x, 0, 1, 1, size, 0);
                    x.offer(0, 1);
                    x.receive(1, stored);
                    String when = stored + " of " + size + " blocks, crash of " + s;
                    boolean lost = stored < size;
                    checks.due(when, x.crash(s), lost ? 1 : 0);
                    checks.due(when + ": free", x.about(1, 1), lost ? 24 : 24 - size);
                    checks.due(when + ": neighbouring", x.about(1, 2), lost ? 24 : 24 - size);
                    checks.due(when + ": entry", x.history(1, 1, 0), lost ? 0 : 1);
                    checks.due(when + ": backlog", x.backlog(0, 1, 0), lost ? 1 : -1);
                    checks.due(when + ": receives", x.about(1, 5), 0);
                }
            }
        }
    }

    /** The same article is being received by three servers from s: it is lost at each of them. */
    private static void theSameArticleFromOneSender() {
        for (int receivers = 0; receivers <= 3; receivers++) {
            NewsFlood x = four();
            Checks.file(x, 0, 1, 1, 2, 0);
            for (int t = 1; t <= receivers; t++) {
                x.offer(0, t);
            }
            checks.due("crash with " + receivers, x.crash(0), receivers);
            for (int t = 1; t < 4; t++) {
                checks.due("receives", x.about(t, 5), 0);
                checks.due("free", x.about(t, 1), 24);
                checks.due("entries", x.about(t, 3), 0);
                checks.due("stays in the backlog", x.backlog(0, t, 0), 1);
                checks.due("can be offered again", x.offer(0, t), 335);
            }
            checks.due("held by the sender", x.history(0, 1, 0), 1);
        }
    }

    /** Server 0 cancels what server 1 still receives from it; that goes on, and a crash still ends it. */
    private static void lostThoughTheSenderRemovedIt() {
        NewsFlood x = four();
        Checks.file(x, 0, 1, 1, 3, 0);
        x.offer(0, 1);
        x.receive(1, 1);
        Checks.file(x, 0, 2, 1, 1, 1);
        checks.due("held no more", x.article(0, 1, 0), -1);
        checks.due("goes on", x.about(1, 4), 2);
        checks.due("lost", x.crash(0), 1);
        checks.due("receives", x.about(1, 5), 0);
        checks.due("free", x.about(1, 1), 24);
        checks.due("not in the backlog any more", x.backlog(0, 1, 0), 2);
        NewsFlood y = four();
        Checks.file(y, 0, 1, 1, 3, 0);
        y.offer(0, 1);
        Checks.file(y, 0, 2, 1, 1, 1);
        checks.due("filed without a crash", y.receive(1, 3), 0);
        checks.due("held there", y.history(1, 1, 0), 1);
        checks.due("path of the sender", y.article(1, 1, 1), 3);
        checks.due("then nothing is lost", y.crash(0), 0);
    }

    private static void lostThoughTheSenderFeedsNoMore() {
        NewsFlood x = four();
        Checks.file(x, 0, 1, 1, 3, 0);
        x.offer(0, 1);
        x.peer(0, 1, 0);
        checks.due("goes on", x.receive(1, 1), 2);
        checks.due("lost", x.crash(0), 1);
        checks.due("receives", x.about(1, 5), 0);
        checks.due("free", x.about(1, 1), 24);
        checks.due("no backlog", x.backlog(0, 1, 0), -1);
        NewsFlood y = four();
        Checks.file(y, 0, 1, 1, 3, 0);
        y.offer(0, 1);
        y.peer(0, 1, 0);
        checks.due("filed without a crash", y.receive(1, 3), 0);
        checks.due("held there", y.history(1, 1, 0), 1);
        checks.due("then nothing is lost", y.crash(0), 0);
    }

    /** Server 3 loses its own post and what 0, 1 and 2 receive from it. */
    private static void lastOfManyReceivers() {
        NewsFlood x = four();
        for (int id = 1; id <= 3; id++) {
            Checks.file(x, 3, id, 1, id, 0);
        }
        x.offer(3, 1);
        x.receive(1, 1);
        x.offer(3, 1);
        x.offer(3, 0);
        x.offer(3, 2);
        x.write(4, 1, 0, 8, 0);
        x.post(3, 4, 0);
        checks.due("before", x.about(3, 1), 10);
        checks.due("crash", x.crash(3), 4);
        checks.due("its blocks", x.about(3, 1), 18);
        checks.due("what it holds", x.about(3, 0), 3);
        checks.due("what 1 holds", x.about(1, 0), 1);
        checks.due("the backlog for 1", x.backlog(3, 1, 0), 2);
        checks.due("the backlog for 0", x.backlog(3, 0, 0), 1);
    }
}
