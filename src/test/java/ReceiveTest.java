/** Promise 8: receive, and with it filing and cancelling. */
public final class ReceiveTest {
    private static final Checks checks = new Checks();

    public static void main(String[] args) {
        blockByBlock();
        filing();
        untilIsTheGreater();
        filingAfterTheSenderForgot();
        filingAfterTheBacklogWentAway();
        cancelHeld();
        cancelKnown();
        cancelUnknown();
        cancelWithFullHistory();
        refusals();
        asManyBlocksAsAreLeft();
        checks.end();
    }

    private static NewsFlood two(int cutoff) {
        NewsFlood x = new NewsFlood(2, cutoff);
        x.carry(0, Checks.text("a"), 1000);
        x.carry(1, Checks.text("a"), 1000);
        x.carry(0, Checks.text("b"), 1000);
        x.carry(1, Checks.text("c"), 1000);
        x.peer(0, 1, Checks.text("*"));
        return x;
    }

    private static void blockByBlock() {
        NewsFlood x = two(5);
        x.write(1, 1, 0, 8, 0);
        x.post(0, 1, 0);
        checks.due("1 of 8", x.receive(0, 1), 7);
        checks.due("not stored", x.about(0, 4), 7);
        checks.due("3 of 8", x.receive(0, 2), 5);
        checks.due("7 of 8", x.receive(0, 4), 1);
        checks.due("not held", x.history(0, 1, 0), 0);
        checks.due("more than are left", x.receive(0, Integer.MAX_VALUE), 0);
        checks.due("held", x.history(0, 1, 0), 1);
        checks.due("receives nothing", x.about(0, 5), 0);
        checks.due("nothing is missing", x.about(0, 4), 0);
        checks.due("no more", x.receive(0, 1), -1);
    }

    private static void filing() {
        NewsFlood x = two(5);
        x.tick(4);
        x.write(1, 7, 0, 2, 0);
        x.post(0, 1, 0);
        x.tick(3);
        x.receive(0, 2);
        checks.due("arrival", x.article(0, 1, 2), 7);
        checks.due("number in a", x.article(0, 1, 3), 1);
        checks.due("number in b", x.article(0, 1, 4), 1);
        checks.due("number in c, not carried", x.article(0, 1, 5), 0);
        checks.due("high of a", x.group(0, 0, 0), 1);
        checks.due("high of b", x.group(0, 1, 0), 1);
        Checks.file(x, 0, 2, 2);
        checks.due("number in b", x.article(0, 2, 4), 2);
        checks.due("no number in a", x.article(0, 2, 3), 0);
        checks.due("high of a stays", x.group(0, 0, 0), 1);
        checks.due("high elsewhere", x.group(1, 0, 0), 0);
        checks.due("backlog", x.backlog(0, 1, 1), 2);
    }

    private static void untilIsTheGreater() {
        NewsFlood x = two(5);
        x.tick(20);
        x.write(1, 1, 18, 1, 0);
        x.write(2, 1, 27, 1, 0);
        x.post(0, 1, 0);
        x.receive(0, 1);
        x.post(0, 2, 0);
        x.receive(0, 1);
        checks.due("by the clock", x.history(0, 1, 1), 25);
        checks.due("by the date", x.history(0, 2, 1), 32);
        x.write(3, 1, 24, 1, 0);
        x.post(0, 3, 0);
        x.tick(9);
        x.receive(0, 1);
        checks.due("by the clock of filing", x.history(0, 3, 1), 34);
    }

    private static void filingAfterTheSenderForgot() {
        NewsFlood x = two(5);
        Checks.file(x, 0, 1, 1);
        Checks.file(x, 0, 2, 1);
        x.offer(0, 1);
        Checks.file(x, 0, 3, 1, 1, 1);
        checks.due("left when it was removed", x.backlog(0, 1, 0), 2);
        checks.due("filed all the same", x.receive(1, 1), 0);
        checks.due("held", x.history(1, 1, 0), 1);
        checks.due("others stay", x.backlog(0, 1, 0), 2);
        checks.due("others stay", x.backlog(0, 1, 1), 3);
    }

    private static void filingAfterTheBacklogWentAway() {
        NewsFlood x = two(5);
        Checks.file(x, 0, 1, 1);
        x.offer(0, 1);
        x.peer(0, 1, 0);
        x.peer(0, 1, Checks.text("*"));
        Checks.file(x, 0, 2, 1);
        checks.due("filed all the same", x.receive(1, 1), 0);
        checks.due("path", x.article(1, 1, 1), 3);
        checks.due("others stay", x.backlog(0, 1, 0), 2);
    }

    private static void cancelHeld() {
        NewsFlood x = two(5);
        Checks.file(x, 0, 1, 3, 3, 0);
        Checks.file(x, 0, 2, 3, 2, 0);
        x.select(0, 0);
        x.tick(2);
        x.write(3, 2, 2, 1, 1);
        x.post(0, 3, 0);
        checks.due("held until then", x.history(0, 1, 0), 1);
        x.receive(0, 1);
        checks.due("CANCELLED", x.history(0, 1, 0), 4);
        checks.due("until stays", x.history(0, 1, 1), 5);
        checks.due("held no more", x.article(0, 1, 0), -1);
        checks.due("numbers in a", x.group(0, 0, 2), 1);
        checks.due("lowest in a", x.group(0, 0, 1), 2);
        checks.due("high of a", x.group(0, 0, 0), 2);
        checks.due("free blocks", x.about(0, 1), 21);
        checks.due("neighbouring", x.about(0, 2), 18);
        checks.due("left the backlog", x.backlog(0, 1, 0), 2);
        checks.due("the cancel is in it", x.backlog(0, 1, 1), 3);
        checks.due("holds", x.about(0, 0), 2);
        checks.due("entries", x.about(0, 3), 3);
        checks.due("current stays", x.about(0, 7), 1);
        checks.due("current has no article", x.stat(0, 0), -1);
        checks.due("lies behind the other", x.article(0, 3, 0), 5);
        checks.due("the first blocks are used again", Checks.file(x, 0, 4, 1, 3, 0), 0);
        checks.due("first block", x.article(0, 4, 0), 0);
    }

    private static void cancelKnown() {
        NewsFlood x = two(5);
        Checks.file(x, 0, 1, 2);
        x.offer(0, 1);
        x.tick(1);
        checks.due("REFUSED", x.history(1, 1, 0), 3);
        Checks.file(x, 1, 2, 1, 1, 1);
        checks.due("CANCELLED", x.history(1, 1, 0), 4);
        checks.due("until stays", x.history(1, 1, 1), 5);
        checks.due("entries", x.about(1, 3), 2);
        Checks.file(x, 1, 3, 1, 1, 1);
        checks.due("CANCELLED twice", x.history(1, 1, 0), 4);
        checks.due("until stays", x.history(1, 1, 1), 5);
    }

    private static void cancelUnknown() {
        NewsFlood x = two(5);
        x.tick(3);
        x.write(1, 1, 9, 1, 2);
        x.post(0, 1, 0);
        x.tick(1);
        x.receive(0, 1);
        checks.due("CANCELLED", x.history(0, 2, 0), 4);
        checks.due("until by the clock alone", x.history(0, 2, 1), 9);
        checks.due("until of the cancel", x.history(0, 1, 1), 14);
        checks.due("entries", x.about(0, 3), 2);
        checks.due("holds", x.about(0, 0), 1);
        checks.due("post of it", Checks.file(x, 0, 2, 1), 441);
    }

    private static void cancelWithFullHistory() {
        NewsFlood x = two(5);
        Checks.file(x, 0, 40, 1);
        for (int id = 1; id <= 11; id++) {
            Checks.file(x, 0, id, 1, 1, id + 12);
        }
        checks.due("entries", x.about(0, 3), 23);
        checks.due("the last that fits", Checks.file(x, 0, 12, 1, 1, 39), 0);
        checks.due("entries", x.about(0, 3), 24);
        checks.due("FILED", x.history(0, 12, 0), 1);
        checks.due("no entry for what it cancels", x.history(0, 39, 0), 0);
        checks.due("until of none", x.history(0, 39, 1), -1);
    }

    private static void refusals() {
        NewsFlood x = two(5);
        x.write(1, 1, 0, 2, 0);
        checks.due("receives nothing", x.receive(0, 1), -1);
        x.post(0, 1, 0);
        int[] noServers = {-1, 2, 3, Integer.MIN_VALUE, Integer.MAX_VALUE};
        for (int s : noServers) {
            checks.due("receive at " + s, x.receive(s, 1), -1);
        }
        int[] noBlocks = {0, -1, Integer.MIN_VALUE};
        for (int blocks : noBlocks) {
            checks.due("blocks " + blocks, x.receive(0, blocks), -1);
        }
        checks.due("nothing was stored", x.about(0, 4), 2);
        checks.due("the other receives nothing", x.receive(1, 1), -1);
    }

    /** "Up to so many further blocks": fewer than are left, just these, and more, for every size. */
    private static void asManyBlocksAsAreLeft() {
        for (int size = 1; size <= 8; size++) {
            for (int stored = 0; stored < size; stored++) {
                int left = size - stored;
                int[] edges = {0, 1, left - 1, left, left + 1, Integer.MAX_VALUE - stored, Integer.MAX_VALUE};
                for (int blocks : edges) {
                    NewsFlood x = two(5);
                    x.write(1, 1, 0, size, 0);
                    x.post(0, 1, 0);
                    if (stored > 0) {
                        checks.due("stored", x.receive(0, stored), left);
                    }
                    int want = Math.max(0, left - blocks);
                    String call = blocks + " of " + left + " blocks";
                    checks.due(call, x.receive(0, blocks), blocks < 1 ? -1 : want);
                    checks.due(call + ", missing", x.about(0, 4), want);
                    checks.due(call + ", receives", x.about(0, 5), want > 0 ? 1 : 0);
                    checks.due(call + ", entry", x.history(0, 1, 0), want > 0 ? 0 : 1);
                    checks.due(call + ", free", x.about(0, 1), 24 - size);
                }
            }
        }
    }
}
