/**
 * "A refused call changes nothing", for every "Refused" of promises 2 to 11: each reason, on the first
 * value that is wrong and on far ones, and all that can be seen of the object is as before.
 */
public final class RefusedTest {
    private static final Checks checks = new Checks();
    private static final int MIN = Integer.MIN_VALUE;
    private static final int MAX = Integer.MAX_VALUE;
    /** 32 and 64 are servers 0 for a shift that wraps around. */
    private static final int[] NO_SERVERS = {MIN, -1, Situations.SERVERS, Situations.SERVERS + 1, 32, 64, MAX};
    private static final int[] NO_IDS = {MIN, -1, 0, 41, 42, MAX};
    private static final long STAR = Checks.text("*");
    private static final long A = Checks.text("a");

    public static void main(String[] args) {
        carryOfNoServer();
        carryOfNoName();
        carryForWrongTicks();
        carryOfASeventhGroup();
        peerOfNoServers();
        peerOfOneServer();
        peerByNoPattern();
        writeOfNoId();
        writeOfWhatIsSentOff();
        writeInWrongGroups();
        writeWithWrongNumbers();
        postAtNoServer();
        postOfWhatWasNotWritten();
        postWithAWrongPath();
        offerOfNoServers();
        offerOfNothing();
        receiveAtNoServer();
        receiveOfNothing();
        receiveOfNoBlocks();
        crashAndExpireOfNoServer();
        checks.end();
    }

    private static void refused(String call, Look.Call made) {
        for (Situations.Situation situation : Situations.ALL) {
            situation.unchanged(checks, call, made, -1);
        }
    }

    private static void isFalse(String call, Look.Call made) {
        for (Situations.Situation situation : Situations.ALL) {
            situation.unchanged(checks, call, made, 0);
        }
    }

    private static void carryOfNoServer() {
        for (int s : NO_SERVERS) {
            refused("carry(" + s + ", a)", x -> x.carry(s, A, 5));
        }
    }

    private static void carryOfNoName() {
        String[] wrong = {"", "A", "a*", "?", "!", "a,b", "`", "{", "-", "/", "\0a", "a\0b", "aaaaaaa\u0080", "\u00e1"};
        for (String name : wrong) {
            refused("carry(1, '" + name + "')", x -> x.carry(1, Checks.text(name), 5));
        }
        refused("carry(1, -1)", x -> x.carry(1, -1L, 5));
        refused("carry(1, MIN)", x -> x.carry(1, Long.MIN_VALUE, 5));
    }

    private static void carryForWrongTicks() {
        int[] wrong = {MIN, -1, 0, 1001, 1002, MAX};
        for (int keep : wrong) {
            refused("carry(0, a, " + keep + ")", x -> x.carry(0, A, keep));
            refused("carry(2, newest, " + keep + ")", x -> x.carry(2, Checks.text("newest"), keep));
        }
    }

    private static void carryOfASeventhGroup() {
        for (int s = 0; s < Situations.SERVERS; s++) {
            int at = s;
            Situations.BUSY.unchanged(checks, "7th at " + s, x -> x.carry(at, Checks.text("f"), 5), -1);
            Situations.FULL.unchanged(checks, "7th at " + s, x -> x.carry(at, Checks.text("aa"), 5), -1);
        }
    }

    private static void peerOfNoServers() {
        for (int none : NO_SERVERS) {
            isFalse("peer(" + none + ", 1, *)", x -> x.peer(none, 1, STAR) ? 1 : 0);
            isFalse("peer(0, " + none + ", *)", x -> x.peer(0, none, STAR) ? 1 : 0);
            isFalse("peer(" + none + ", 1, 0)", x -> x.peer(none, 1, 0) ? 1 : 0);
            isFalse("peer(0, " + none + ", 0)", x -> x.peer(0, none, 0) ? 1 : 0);
        }
    }

    private static void peerOfOneServer() {
        for (int s = 0; s < Situations.SERVERS; s++) {
            int at = s;
            isFalse("peer(" + s + ", " + s + ", *)", x -> x.peer(at, at, STAR) ? 1 : 0);
            isFalse("peer(" + s + ", " + s + ", 0)", x -> x.peer(at, at, 0) ? 1 : 0);
        }
    }

    private static void peerByNoPattern() {
        String[] wrong = {"A", "a b", "1", "+", "-", "/", "\"", ">", "@", "\0*", "*\0*", "*,,,,,,\u00ff", "\u00aa"};
        for (String pattern : wrong) {
            isFalse("peer(0, 1, '" + pattern + "')", x -> x.peer(0, 1, Checks.text(pattern)) ? 1 : 0);
            isFalse("peer(2, 1, '" + pattern + "')", x -> x.peer(2, 1, Checks.text(pattern)) ? 1 : 0);
        }
        isFalse("peer(0, 1, -1)", x -> x.peer(0, 1, -1L) ? 1 : 0);
        isFalse("peer(0, 1, MIN)", x -> x.peer(0, 1, Long.MIN_VALUE) ? 1 : 0);
    }

    private static void writeOfNoId() {
        for (int id : NO_IDS) {
            isFalse("write(" + id + ")", x -> x.write(id, 1, 8, 2, 4) ? 1 : 0);
        }
    }

    /** Held, CANCELLED, EXPIRED, and received now. */
    private static void writeOfWhatIsSentOff() {
        int[] sentOff = {1, 3, 6, 10};
        for (int id : sentOff) {
            Situations.BUSY.unchanged(checks, "write(" + id + ")", x -> x.write(id, 1, 9, 1, 0) ? 1 : 0, 0);
        }
    }

    /** Once for an ID that was written before and is not sent off, once for one that never was. */
    private static void writeInWrongGroups() {
        int[] wrong = {MIN, MIN | 1, -1, 0, 64, 65, 127, 1 << 30, MAX};
        for (int groups : wrong) {
            isFalse("write(11, " + groups + ")", x -> x.write(11, groups, 9, 1, 0) ? 1 : 0);
            isFalse("write(20, " + groups + ")", x -> x.write(20, groups, 9, 1, 0) ? 1 : 0);
        }
        Situations.EMPTY.unchanged(checks, "write without groups", x -> x.write(20, 1, 9, 1, 0) ? 1 : 0, 0);
    }

    private static void writeWithWrongNumbers() {
        int[] dates = {MIN, -1, 1000001, MAX};
        int[] sizes = {MIN, -1, 0, 9, 10, MAX};
        int[] cancels = {MIN, -1, 41, 42, MAX, 11};
        for (int date : dates) {
            isFalse("write(11) of " + date, x -> x.write(11, 1, date, 1, 0) ? 1 : 0);
            isFalse("write(20) of " + date, x -> x.write(20, 1, date, 1, 0) ? 1 : 0);
        }
        for (int size : sizes) {
            isFalse("write(11) with " + size + " blocks", x -> x.write(11, 1, 9, size, 0) ? 1 : 0);
            isFalse("write(20) with " + size + " blocks", x -> x.write(20, 1, 9, size, 0) ? 1 : 0);
        }
        for (int other : cancels) {
            isFalse("write(11) cancelling " + other, x -> x.write(11, 1, 9, 1, other) ? 1 : 0);
        }
        isFalse("write(40) cancelling itself", x -> x.write(40, 1, 9, 1, 40) ? 1 : 0);
    }

    private static void postAtNoServer() {
        for (int s : NO_SERVERS) {
            refused("post(" + s + ", 11)", x -> x.post(s, 11, 0));
        }
    }

    private static void postOfWhatWasNotWritten() {
        for (int id : NO_IDS) {
            refused("post(2, " + id + ")", x -> x.post(2, id, 0));
        }
        for (int s = 0; s < Situations.SERVERS; s++) {
            int at = s;
            refused("post(" + s + ", 39)", x -> x.post(at, 39, 0));
        }
        Situations.BUSY.unchanged(checks, "post of what is known, but not written", x -> x.post(2, 31, 0), -1);
    }

    private static void postWithAWrongPath() {
        int[] wrong = {MIN, -1, 8, 9, 16, MAX};
        for (int path : wrong) {
            for (int s = 0; s < Situations.SERVERS; s++) {
                int at = s;
                refused("post(" + s + ", 11, " + path + ")", x -> x.post(at, 11, path));
            }
        }
    }

    private static void offerOfNoServers() {
        for (int none : NO_SERVERS) {
            refused("offer(" + none + ", 1)", x -> x.offer(none, 1));
            refused("offer(0, " + none + ")", x -> x.offer(0, none));
            refused("offer(" + none + ", " + none + ")", x -> x.offer(none, none));
        }
    }

    private static void offerOfNothing() {
        for (int s = 0; s < Situations.SERVERS; s++) {
            int at = s;
            refused("offer(" + s + ", " + s + ")", x -> x.offer(at, at));
            refused("offer(2, " + s + ") without a backlog", x -> x.offer(2, at));
        }
        Situations.BUSY.unchanged(checks, "offer(1, 2) of an empty backlog", x -> x.offer(1, 2), -1);
    }

    private static void receiveAtNoServer() {
        for (int s : NO_SERVERS) {
            refused("receive(" + s + ", 1)", x -> x.receive(s, 1));
        }
    }

    private static void receiveOfNothing() {
        refused("receive(2, 1)", x -> x.receive(2, 1));
        refused("receive(2, MAX)", x -> x.receive(2, MAX));
    }

    private static void receiveOfNoBlocks() {
        int[] wrong = {MIN, -1, 0};
        for (int blocks : wrong) {
            for (int s = 0; s < Situations.SERVERS; s++) {
                int at = s;
                refused("receive(" + s + ", " + blocks + ")", x -> x.receive(at, blocks));
            }
        }
    }

    private static void crashAndExpireOfNoServer() {
        for (int s : NO_SERVERS) {
            refused("crash(" + s + ")", x -> x.crash(s));
            refused("expire(" + s + ")", x -> x.expire(s));
        }
    }
}
