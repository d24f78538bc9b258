/** The limits that "Terms" names for groups, IDs, sizes, the spool, the history and Dates. */
public final class LimitsTest {
    private static final Checks checks = new Checks();
    private static final int[] CUTOFFS = {1, 2, 5, 99, 100};

    public static void main(String[] args) {
        serversOfEachNumber();
        sixGroups();
        highNeverFalls();
        fortyIds();
        oneToEightBlocks();
        twentyFourBlocks();
        lowestBlocksThatSuffice();
        blocksMustBeNeighbours();
        twentyFourEntries();
        lastEntryIsForTheArticleItself();
        fullHistoryTakesNoNewEntries();
        fullHistoryStillChangesItsEntries();
        dateAgainstTheClockLessTheCutoff();
        dateAgainstTheClockPlusTen();
        untilByTheGreater();
        oneArticleAtATime();
        removedLeavesTheBacklogsOfThatServerAlone();
        pathsAndPatternsOfBacklogs();
        checks.end();
    }

    private static NewsFlood with(int servers, int cutoff) {
        NewsFlood x = new NewsFlood(servers, cutoff);
        for (int s = 0; s < servers; s++) {
            x.carry(s, Checks.text("a"), 1000);
        }
        return x;
    }

    private static int goOn(NewsFlood x, int ticks) {
        int left = ticks;
        while (left > 0) {
            x.tick(Math.min(left, 1000));
            left -= Math.min(left, 1000);
        }
        return x.tick(0);
    }

    /** "SERVERS 0 .. n - 1", in the calls that work on one. */
    private static void serversOfEachNumber() {
        for (int n = 2; n <= 4; n++) {
            for (int s = -1; s <= n; s++) {
                boolean is = s >= 0 && s < n;
                NewsFlood x = new NewsFlood(n, 5);
                String at = " at " + s + " of " + n;
                int other = s == 0 ? 1 : 0;
                checks.due("carry" + at, x.carry(s, Checks.text("a"), 5), is ? 0 : -1);
                x.carry(other, Checks.text("a"), 5);
                checks.due("peer from" + at, x.peer(s, other, Checks.text("*")), is);
                checks.due("peer to" + at, x.peer(other, s, Checks.text("*")), is);
                x.write(1, 1, 0, 1, 0);
                checks.due("post" + at, x.post(s, 1, 0), is ? 340 : -1);
                checks.due("about" + at, x.about(s, 5), is ? 1 : -1);
                checks.due("receive" + at, x.receive(s, 1), is ? 0 : -1);
                checks.due("backlog" + at, x.backlog(s, other, 0), is ? 1 : -1);
                checks.due("offer from" + at, x.offer(s, other), is ? 335 : -1);
                checks.due("crash" + at, x.crash(s), is ? 1 : -1);
                Checks.file(x, other, 2, 1);
                checks.due("backlog for" + at, x.backlog(other, s, 0), is ? 2 : -1);
                checks.due("offer to" + at, x.offer(other, s), is ? 335 : -1);
                checks.due("select" + at, x.select(s, 0), is ? 1 : -1);
                checks.due("stat" + at, x.stat(s, 1), is ? 1 : -1);
                checks.due("over" + at, x.over(s, 1, 1), is ? 1 : 0);
                checks.due("history" + at, x.history(s, 1, 0), is ? 1 : -1);
                checks.due("article" + at, x.article(s, 1, 0), is ? 0 : -1);
                checks.due("group" + at, x.group(s, 0, 0), is ? 1 : -1);
                x.receive(s, 1);
                checks.due("step" + at, x.step(s, true), is ? 2 : -1);
                x.tick(6);
                checks.due("expire" + at, x.expire(s), is ? 2 : -1);
            }
        }
    }

    /** "there are at most 6". */
    private static void sixGroups() {
        String[] names = {"f", "e", "d", "c", "b", "a"};
        NewsFlood x = new NewsFlood(4, 5);
        for (int g = 0; g < 6; g++) {
            checks.due("a bit for no group", x.write(1, 1 << g, 0, 1, 0), false);
            checks.due("carry " + names[g], x.carry(g % 4, Checks.text(names[g]), 5), g);
            checks.due("a bit for a group", x.write(1, 1 << g, 0, 1, 0), true);
            checks.due("all bits", x.write(1, (2 << g) - 1, 0, 1, 0), true);
            checks.due("a bit too many", x.write(1, (4 << g) - 1, 0, 1, 0), false);
        }
        for (int s = 0; s < 4; s++) {
            checks.due("a 7th at " + s, x.carry(s, Checks.text("g"), 5), -1);
            checks.due("the 6th at " + s, x.carry(s, Checks.text("a"), 7), 5);
            checks.due("the 1st at " + s, x.carry(s, Checks.text("f"), 7), 0);
        }
        checks.due("filed in all", Checks.file(x, 0, 1, 63), 0);
        checks.due("number in the 6th", x.article(0, 1, 8), 1);
        checks.due("number in one not carried", x.article(0, 1, 6), 0);
        checks.due("select the 6th", x.select(0, 5), 1);
        checks.due("select a 7th", x.select(0, 6), -1);
    }

    /** "a HIGH number for each group that it carries, 0 at first, which never falls". */
    private static void highNeverFalls() {
        NewsFlood x = with(2, 5);
        checks.due("at first", x.group(0, 0, 0), 0);
        Checks.file(x, 0, 1, 1);
        Checks.file(x, 0, 2, 1, 1, 1);
        checks.due("behind a cancel", x.group(0, 0, 0), 2);
        x.carry(0, Checks.text("a"), 1);
        checks.due("carried again", x.group(0, 0, 0), 2);
        x.tick(2);
        checks.due("all are expired", x.expire(0), 1);
        checks.due("behind expire", x.group(0, 0, 0), 2);
        x.write(3, 1, 2, 2, 0);
        x.post(0, 3, 0);
        x.crash(0);
        checks.due("behind a crash", x.group(0, 0, 0), 2);
        Checks.file(x, 0, 4, 1);
        checks.due("the next number", x.article(0, 4, 3), 3);
        checks.due("at the other", x.group(1, 0, 0), 0);
    }

    /** "ARTICLES have IDs 1 .. 40". */
    private static void fortyIds() {
        for (int id = -1; id <= 42; id++) {
            boolean is = id >= 1 && id <= 40;
            NewsFlood x = with(2, 5);
            checks.due("write " + id, x.write(id, 1, 0, 1, 0), is);
            checks.due("post " + id, x.post(0, id, 0), is ? 340 : -1);
            checks.due("receive " + id, x.receive(0, 1), is ? 0 : -1);
            checks.due("history " + id, x.history(0, id, 0), is ? 1 : -1);
            checks.due("until " + id, x.history(0, id, 1), is ? 5 : -1);
            checks.due("history elsewhere " + id, x.history(1, id, 0), is ? 0 : -1);
            checks.due("article " + id, x.article(0, id, 0), is ? 0 : -1);
            boolean cancels = id >= 0 && id <= 40 && id != 7;
            checks.due("cancel " + id, x.write(7, 1, 0, 1, id), cancels);
        }
    }

    /** "a size of 1 to 8 blocks". */
    private static void oneToEightBlocks() {
        for (int size = -1; size <= 10; size++) {
            boolean is = size >= 1 && size <= 8;
            NewsFlood x = with(2, 5);
            checks.due("write of size " + size, x.write(1, 1, 0, size, 0), is);
            checks.due("post of size " + size, x.post(0, 1, 0), is ? 340 : -1);
            checks.due("missing of size " + size, x.about(0, 4), is ? size : 0);
            checks.due("free by size " + size, x.about(0, 1), is ? 24 - size : 24);
            checks.due("all but one", x.receive(0, size - 1), is && size > 1 ? 1 : -1);
            checks.due("the last one", x.receive(0, 1), is ? 0 : -1);
        }
    }

    /** "A server's SPOOL has 24 blocks, 0 .. 23". */
    private static void twentyFourBlocks() {
        NewsFlood x = with(2, 5);
        for (int id = 1; id <= 24; id++) {
            checks.due("free before " + id, x.about(0, 1), 25 - id);
            checks.due("neighbouring before " + id, x.about(0, 2), 25 - id);
            x.write(40, 1, 0, 8, 0);
            if (id > 17) {
                checks.due("no 8 blocks before " + id, x.post(0, 40, 0), 441);
            }
            checks.due("block for " + id, Checks.file(x, 0, id, 1), 0);
            checks.due("first block of " + id, x.article(0, id, 0), id - 1);
        }
        checks.due("free", x.about(0, 1), 0);
        checks.due("neighbouring", x.about(0, 2), 0);
        checks.due("held", x.about(0, 0), 24);
        checks.due("a 25th", Checks.file(x, 0, 25, 1), 441);
        NewsFlood y = with(2, 5);
        for (int id = 1; id <= 3; id++) {
            checks.due("8 blocks for " + id, Checks.file(y, 0, id, 1, 8, 0), 0);
            checks.due("first block of " + id, y.article(0, id, 0), 8 * id - 8);
        }
        checks.due("a 25th block", Checks.file(y, 0, 4, 1), 441);
        checks.due("entries are left", y.about(0, 3), 3);
    }

    /** "those that begin at the lowest block from which on so many are free": a gap of 1 .. 8 at block 3. */
    private static void lowestBlocksThatSuffice() {
        for (int gap = 1; gap <= 8; gap++) {
            for (int size = 1; size <= 8; size++) {
                NewsFlood x = with(2, 5);
                Checks.file(x, 0, 1, 1, 3, 0);
                Checks.file(x, 0, 2, 1, gap, 0);
                Checks.file(x, 0, 3, 1, 1, 0);
                Checks.file(x, 0, 4, 1, 1, 2);
                int end = 5 + gap;
                checks.due("free", x.about(0, 1), 24 - 5);
                checks.due("neighbouring", x.about(0, 2), Math.max(gap, 24 - end));
                checks.due("file", Checks.file(x, 0, 5, 1, size, 0), 0);
                checks.due(size + " by a gap of " + gap, x.article(0, 5, 0), size <= gap ? 3 : end);
            }
        }
    }

    /** "there are not so many neighbouring free blocks": gaps of 5 and 4, no other free block. */
    private static void blocksMustBeNeighbours() {
        for (int size = 1; size <= 8; size++) {
            NewsFlood x = with(2, 5);
            x.peer(1, 0, Checks.text("*"));
            Checks.file(x, 1, 9, 1, size, 0);
            Checks.file(x, 0, 1, 1, 6, 0);
            Checks.file(x, 0, 2, 1, 7, 0);
            Checks.file(x, 0, 3, 1, 4, 0);
            Checks.file(x, 0, 4, 1, 6, 0);
            Checks.file(x, 0, 5, 1, 1, 1);
            Checks.file(x, 0, 6, 1, 1, 3);
            checks.due("free", x.about(0, 1), 9);
            checks.due("neighbouring", x.about(0, 2), 5);
            x.write(7, 1, 0, size, 0);
            checks.due("post of " + size, x.post(0, 7, 0), size <= 5 ? 340 : 441);
            x.crash(0);
            checks.due("offer of " + size, x.offer(1, 0), size <= 5 ? 335 : 431);
        }
    }

    /** A server 0 with so many entries, all CANCELLED but the FILED ones that made them. */
    private static NewsFlood withEntries(int entries) {
        NewsFlood x = with(2, 5);
        x.carry(1, Checks.text("b"), 1000);
        x.peer(1, 0, Checks.text("*"));
        for (int id = 1; id <= entries / 2; id++) {
            Checks.file(x, 0, id, 1, 1, id + 12);
        }
        if (entries % 2 == 1) {
            Checks.file(x, 0, 25, 1);
        }
        checks.due("entries", x.about(0, 3), entries);
        return x;
    }

    /** "A server's HISTORY has at most 24 entries"; one with 24 lacks room. */
    private static void twentyFourEntries() {
        for (int entries = 22; entries <= 24; entries++) {
            NewsFlood x = withEntries(entries);
            boolean room = entries < 24;
            checks.due("blocks are left", x.about(0, 2) > 8, true);
            Checks.file(x, 1, 30, 1);
            checks.due("offer to " + entries, x.offer(1, 0), room ? 335 : 431);
            x.crash(0);
            checks.due("post to " + entries, Checks.file(x, 0, 31, 1), room ? 0 : 441);
            checks.due("entries behind " + entries, x.about(0, 3), Math.min(24, entries + 1));
            checks.due("history behind " + entries, x.history(0, 31, 0), room ? 1 : 0);
        }
    }

    /** "if the history has fewer than 24 entries, it gets one": the article's own is in it by then. */
    private static void lastEntryIsForTheArticleItself() {
        for (int entries = 21; entries <= 23; entries++) {
            NewsFlood x = withEntries(entries);
            checks.due("file with a cancel", Checks.file(x, 0, 31, 1, 1, 32), 0);
            checks.due("FILED behind " + entries, x.history(0, 31, 0), 1);
            checks.due("CANCELLED behind " + entries, x.history(0, 32, 0), entries < 23 ? 4 : 0);
            checks.due("until behind " + entries, x.history(0, 32, 1), entries < 23 ? 5 : -1);
            checks.due("entries behind " + entries, x.about(0, 3), Math.min(24, entries + 2));
        }
    }

    /** "if t's history has fewer than 24 entries it gets one, REFUSED". */
    private static void fullHistoryTakesNoNewEntries() {
        for (int entries = 22; entries <= 24; entries++) {
            NewsFlood x = withEntries(entries);
            Checks.file(x, 1, 30, 2);
            checks.due("offer to " + entries, x.offer(1, 0), 439);
            checks.due("REFUSED behind " + entries, x.history(0, 30, 0), entries < 24 ? 3 : 0);
            checks.due("entries behind " + entries, x.about(0, 3), Math.min(24, entries + 1));
            checks.due("left the backlog", x.backlog(1, 0, 0), -1);
        }
    }

    /** "if the server knows it, its entry becomes CANCELLED", also when there is room for no other. */
    private static void fullHistoryStillChangesItsEntries() {
        NewsFlood x = withEntries(23);
        checks.due("cancel of a held one", Checks.file(x, 0, 31, 1, 1, 25), 0);
        checks.due("entries", x.about(0, 3), 24);
        checks.due("CANCELLED", x.history(0, 25, 0), 4);
        checks.due("held", x.about(0, 0), 12);
        NewsFlood y = withEntries(22);
        Checks.file(y, 1, 30, 2);
        y.offer(1, 0);
        y.tick(1);
        checks.due("cancel of a REFUSED one", Checks.file(y, 0, 31, 1, 1, 30), 0);
        checks.due("entries", y.about(0, 3), 24);
        checks.due("CANCELLED", y.history(0, 30, 0), 4);
        checks.due("until", y.history(0, 30, 1), 5);
    }

    /** The answers to a post and to an offer of an article with this Date, at a clock. */
    private static void dated(int cutoff, int clock, int date, boolean usable) {
        if (date < 0) {
            return;
        }
        String when = " of " + date + " at " + clock + " with " + cutoff;
        NewsFlood x = with(2, cutoff);
        goOn(x, clock);
        x.write(1, 1, date, 1, 0);
        checks.due("post" + when, x.post(0, 1, 0), usable ? 340 : 441);
        checks.due("blocks" + when, x.about(0, 1), usable ? 23 : 24);
        checks.due("entries" + when, x.about(0, 3), 0);
    }

    /** An article filed at server 1 in time is offered to server 0 when its Date is that old. */
    private static void offeredAtAge(int cutoff, int age, boolean usable) {
        NewsFlood x = with(2, cutoff);
        x.peer(1, 0, Checks.text("*"));
        x.tick(3);
        Checks.file(x, 1, 1, 1);
        goOn(x, age);
        String when = " of age " + age + " with " + cutoff;
        checks.due("offer" + when, x.offer(1, 0), usable ? 335 : 439);
        checks.due("entry" + when, x.history(0, 1, 0), usable ? 0 : 3);
        checks.due("until" + when, x.history(0, 1, 1), usable ? -1 : 3 + age + cutoff);
        checks.due("backlog" + when, x.backlog(1, 0, 0), usable ? 1 : -1);
    }

    /** "whose Date is less than the clock less the cutoff", also where that is below 0. */
    private static void dateAgainstTheClockLessTheCutoff() {
        for (int cutoff : CUTOFFS) {
            int[] clocks = {0, 1, cutoff - 1, cutoff, cutoff + 1, 200, 3000};
            for (int clock : clocks) {
                int oldest = clock - cutoff;
                for (int date = oldest - 2; date <= oldest + 2; date++) {
                    dated(cutoff, clock, date, date >= oldest && date <= clock + 10);
                }
                dated(cutoff, clock, 0, 0 >= oldest);
            }
            for (int age = cutoff - 1; age <= cutoff + 2; age++) {
                offeredAtAge(cutoff, age, age <= cutoff);
            }
        }
    }

    /** "or more than the clock plus 10". */
    private static void dateAgainstTheClockPlusTen() {
        for (int cutoff : CUTOFFS) {
            int[] clocks = {0, 1, 9, 10, 11, 200, 3000};
            for (int clock : clocks) {
                for (int ahead = 8; ahead <= 12; ahead++) {
                    dated(cutoff, clock, clock + ahead, ahead <= 10);
                }
                dated(cutoff, clock, 1000000, false);
            }
        }
    }

    /** "UNTIL is the cutoff added to the clock or to the Date, whichever of these two is greater". */
    private static void untilByTheGreater() {
        for (int cutoff : CUTOFFS) {
            for (int ahead = -1; ahead <= 10; ahead++) {
                NewsFlood x = with(2, cutoff);
                x.carry(0, Checks.text("b"), 1000);
                x.peer(0, 1, Checks.text("*"));
                x.tick(20);
                x.write(1, 2, 20 + ahead, 1, 9);
                x.post(0, 1, 0);
                x.receive(0, 1);
                int want = cutoff + 20 + Math.max(0, ahead);
                checks.due("FILED, ahead " + ahead, x.history(0, 1, 1), want);
                checks.due("CANCELLED, ahead " + ahead, x.history(0, 9, 1), cutoff + 20);
                checks.due("offer, ahead " + ahead, x.offer(0, 1), 439);
                checks.due("REFUSED, ahead " + ahead, x.history(1, 1, 1), want);
            }
        }
    }

    /** "A server receives at most one article at a time". */
    private static void oneArticleAtATime() {
        NewsFlood x = with(3, 5);
        x.peer(1, 0, Checks.text("*"));
        x.peer(2, 0, Checks.text("*"));
        Checks.file(x, 1, 1, 1);
        Checks.file(x, 2, 2, 1);
        x.write(3, 1, 0, 2, 0);
        checks.due("one", x.offer(1, 0), 335);
        checks.due("another from another", x.offer(2, 0), 431);
        checks.due("the same again", x.offer(1, 0), 431);
        checks.due("a post", x.post(0, 3, 0), 441);
        checks.due("still the one", x.about(0, 5), 1);
        x.receive(0, 1);
        checks.due("then the other", x.offer(2, 0), 335);
        x.receive(0, 1);
        checks.due("then the post", x.post(0, 3, 0), 340);
        checks.due("while others receive", x.post(1, 3, 0), 340);
    }

    /** "its ID leaves all backlogs of that server". */
    private static void removedLeavesTheBacklogsOfThatServerAlone() {
        NewsFlood x = with(4, 5);
        for (int t = 1; t < 4; t++) {
            x.peer(0, t, Checks.text("*"));
        }
        x.peer(1, 2, Checks.text("*"));
        Checks.file(x, 0, 1, 1);
        Checks.file(x, 0, 2, 1);
        x.offer(0, 1);
        x.receive(1, 1);
        Checks.file(x, 0, 3, 1, 1, 1);
        checks.due("0 for 1", x.backlog(0, 1, 0), 2);
        checks.due("0 for 2", x.backlog(0, 2, 0), 2);
        checks.due("0 for 3", x.backlog(0, 3, 0), 2);
        checks.due("0 for 3, next", x.backlog(0, 3, 1), 3);
        checks.due("1 for 2", x.backlog(1, 2, 0), 1);
        checks.due("1 holds it", x.history(1, 1, 0), 1);
    }

    /** "that is not in the path, and whose pattern matches the name of at least one of the groups". */
    private static void pathsAndPatternsOfBacklogs() {
        for (int path = 0; path < 16; path++) {
            NewsFlood x = with(4, 5);
            x.carry(3, Checks.text("b"), 5);
            x.peer(0, 1, Checks.text("b"));
            x.peer(0, 2, Checks.text("*,!b"));
            x.peer(0, 3, Checks.text("!a,!b"));
            x.write(1, 3, 0, 1, 0);
            x.write(2, 1, 0, 1, 0);
            x.post(0, 1, path);
            x.receive(0, 1);
            x.post(0, 2, path);
            x.receive(0, 1);
            checks.due("path " + path, x.article(0, 1, 1), path | 1);
            boolean for1 = (path & 2) == 0;
            boolean for2 = (path & 4) == 0;
            checks.due("by a group not carried, path " + path, x.backlog(0, 1, 0), for1 ? 1 : -1);
            checks.due("and no other, path " + path, x.backlog(0, 1, 1), -1);
            checks.due("by one of two, path " + path, x.backlog(0, 2, 0), for2 ? 1 : -1);
            checks.due("at the end, path " + path, x.backlog(0, 2, 1), for2 ? 2 : -1);
            checks.due("by none, path " + path, x.backlog(0, 3, 0), -1);
        }
    }
}
