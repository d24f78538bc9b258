/** Promise 3: peer, and promise 19: backlog. */
public final class PeerTest {
    private static final Checks checks = new Checks();

    public static void main(String[] args) {
        backlogsFillByPattern();
        newPatternKeepsTheBacklog();
        patternZeroDropsTheBacklog();
        wrongCallsChangeNothing();
        wrongBacklogQuestions();
        everyPairOfServers();
        placesInABacklog();
        checks.end();
    }

    private static NewsFlood three() {
        NewsFlood x = new NewsFlood(3, 50);
        x.carry(0, Checks.text("a"), 100);
        x.carry(1, Checks.text("b"), 100);
        x.carry(0, Checks.text("c"), 100);
        return x;
    }

    private static void backlogsFillByPattern() {
        NewsFlood x = three();
        checks.due("peer(0, 1)", x.peer(0, 1, Checks.text("a")), true);
        checks.due("peer(0, 2)", x.peer(0, 2, Checks.text("*,!a")), true);
        Checks.file(x, 0, 9, 1);
        Checks.file(x, 0, 3, 1 | 2);
        Checks.file(x, 0, 7, 4);
        checks.due("0 for 1, k 0", x.backlog(0, 1, 0), 9);
        checks.due("0 for 1, k 1", x.backlog(0, 1, 1), 3);
        checks.due("0 for 1, k 2", x.backlog(0, 1, 2), -1);
        checks.due("by a group not carried", x.backlog(0, 2, 0), 3);
        checks.due("0 for 2, k 1", x.backlog(0, 2, 1), 7);
        checks.due("0 for 2, k 2", x.backlog(0, 2, 2), -1);
        checks.due("1 feeds nobody", x.backlog(1, 0, 0), -1);
    }

    private static void newPatternKeepsTheBacklog() {
        NewsFlood x = three();
        Checks.file(x, 0, 1, 1);
        x.peer(0, 1, Checks.text("a"));
        checks.due("nothing of before", x.backlog(0, 1, 0), -1);
        Checks.file(x, 0, 2, 1);
        checks.due("new pattern", x.peer(0, 1, Checks.text("c")), true);
        checks.due("stays", x.backlog(0, 1, 0), 2);
        Checks.file(x, 0, 3, 1);
        checks.due("by the new pattern", x.backlog(0, 1, 1), -1);
        Checks.file(x, 0, 4, 4);
        checks.due("by the new pattern", x.backlog(0, 1, 1), 4);
    }

    private static void patternZeroDropsTheBacklog() {
        NewsFlood x = three();
        checks.due("0 where nothing is fed", x.peer(0, 1, 0), true);
        x.peer(0, 1, Checks.text("*"));
        x.peer(0, 2, Checks.text("*"));
        Checks.file(x, 0, 1, 1);
        checks.due("0", x.peer(0, 1, 0), true);
        checks.due("no backlog", x.backlog(0, 1, 0), -1);
        checks.due("no offer", x.offer(0, 1), -1);
        checks.due("the other stays", x.backlog(0, 2, 0), 1);
        Checks.file(x, 0, 2, 1);
        checks.due("not fed any more", x.backlog(0, 1, 0), -1);
        checks.due("again", x.peer(0, 1, Checks.text("*")), true);
        checks.due("is empty", x.backlog(0, 1, 0), -1);
    }

    private static void wrongCallsChangeNothing() {
        NewsFlood x = three();
        x.peer(0, 1, Checks.text("*"));
        Checks.file(x, 0, 1, 1);
        int[] noServers = {-1, 3, 4, Integer.MIN_VALUE, Integer.MAX_VALUE};
        for (int none : noServers) {
            checks.due("peer(" + none + ", 1)", x.peer(none, 1, Checks.text("*")), false);
            checks.due("peer(0, " + none + ")", x.peer(0, none, Checks.text("*")), false);
            checks.due("peer(0, " + none + ", 0)", x.peer(0, none, 0), false);
        }
        checks.due("to itself", x.peer(0, 0, Checks.text("*")), false);
        checks.due("to itself, 0", x.peer(0, 0, 0), false);
        String[] wrong = {"A", "a b", "a\0b", "\0a", "[a]", "1", "abcdefg\u00ff", "+", "-", "/", "\"", ">", "@"};
        for (String pattern : wrong) {
            checks.due("pattern " + pattern, x.peer(0, 1, Checks.text(pattern)), false);
        }
        checks.due("pattern -1", x.peer(0, 1, -1L), false);
        checks.due("backlog stays", x.backlog(0, 1, 0), 1);
        Checks.file(x, 0, 2, 4);
        checks.due("pattern stays", x.backlog(0, 1, 1), 2);
        String[] right = {",", "!", "*", "?", "********", "!!", "a.z*?!,z", ",,,,,,,,"};
        for (String pattern : right) {
            checks.due("pattern " + pattern, x.peer(0, 1, Checks.text(pattern)), true);
        }
    }

    private static void wrongBacklogQuestions() {
        NewsFlood x = three();
        x.peer(0, 1, Checks.text("*"));
        Checks.file(x, 0, 1, 1);
        int[] noServers = {-1, 3, 4, Integer.MIN_VALUE, Integer.MAX_VALUE};
        for (int none : noServers) {
            checks.due("backlog(" + none + ", 1, 0)", x.backlog(none, 1, 0), -1);
            checks.due("backlog(0, " + none + ", 0)", x.backlog(0, none, 0), -1);
        }
        int[] noPlaces = {-1, 1, 24, 25, 40, Integer.MIN_VALUE, Integer.MAX_VALUE};
        for (int k : noPlaces) {
            checks.due("backlog(0, 1, " + k + ")", x.backlog(0, 1, k), -1);
        }
        checks.due("backlog(0, 0, 0)", x.backlog(0, 0, 0), -1);
        checks.due("backlog(0, 1, 0)", x.backlog(0, 1, 0), 1);
        for (int id = 2; id <= 24; id++) {
            Checks.file(x, 0, id, 1);
        }
        checks.due("the last of 24", x.backlog(0, 1, 23), 24);
        checks.due("behind it", x.backlog(0, 1, 24), -1);
    }

    /** "s or t is none, s is t", for each number of servers. */
    private static void everyPairOfServers() {
        for (int n = 2; n <= 4; n++) {
            for (int s = -1; s <= n; s++) {
                for (int t = -1; t <= n; t++) {
                    boolean right = s >= 0 && s < n && t >= 0 && t < n && s != t;
                    String pair = "(" + s + ", " + t + ") of " + n;
                    NewsFlood x = new NewsFlood(n, 5);
                    checks.due("peer by 0 " + pair, x.peer(s, t, 0), right);
                    checks.due("peer " + pair, x.peer(s, t, Checks.text("*")), right);
                    x.carry(s, Checks.text("a"), 5);
                    Checks.file(x, s, 1, 1);
                    checks.due("backlog " + pair, x.backlog(s, t, 0), right ? 1 : -1);
                    checks.due("the other way " + pair, x.backlog(t, s, 0), -1);
                }
            }
        }
    }

    /** "The ID with number k (from 0) in the backlog": its last place and the one behind it. */
    private static void placesInABacklog() {
        NewsFlood x = three();
        x.peer(0, 1, Checks.text("*"));
        for (int size = 0; size <= 24; size++) {
            checks.due("before the first of " + size, x.backlog(0, 1, -1), -1);
            checks.due("the first of " + size, x.backlog(0, 1, 0), size == 0 ? -1 : 40);
            checks.due("the last of " + size, x.backlog(0, 1, size - 1), size == 0 ? -1 : 41 - size);
            checks.due("behind the last of " + size, x.backlog(0, 1, size), -1);
            checks.due("far behind the last of " + size, x.backlog(0, 1, size + 1), -1);
            Checks.file(x, 0, 40 - size, 1);
        }
    }
}
