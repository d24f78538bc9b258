/** Promise 2: carry. */
public final class CarryTest {
    private static final Checks checks = new Checks();

    public static void main(String[] args) {
        groupsAreNumberedInOrder();
        carryingAgainChangesTheTicksAlone();
        namesAreChecked();
        wrongCallsChangeNothing();
        ticksAtTheirLimits();
        sixGroupsAndNoSeventh();
        checks.end();
    }

    private static int carry(NewsFlood x, int s, String name) {
        return x.carry(s, Checks.text(name), 10);
    }

    private static void groupsAreNumberedInOrder() {
        NewsFlood x = new NewsFlood(3, 5);
        checks.due("first", carry(x, 1, "b"), 0);
        checks.due("second", carry(x, 0, "a"), 1);
        checks.due("first elsewhere", carry(x, 0, "b"), 0);
        checks.due("server 2 does not carry it", x.group(2, 0, 0), -1);
        checks.due("server 1 does not carry the second", x.group(1, 1, 0), -1);
        checks.due("3rd", carry(x, 2, "ab"), 2);
        checks.due("4th", carry(x, 2, "ba"), 3);
        checks.due("5th", carry(x, 2, "a.b"), 4);
        checks.due("6th", carry(x, 2, "abcdefgh"), 5);
        checks.due("7th", carry(x, 2, "c"), -1);
        checks.due("6th elsewhere", carry(x, 0, "abcdefgh"), 5);
        checks.due("6th has ticks", x.group(0, 5, 3), 10);
    }

    private static void carryingAgainChangesTheTicksAlone() {
        NewsFlood x = new NewsFlood(2, 50);
        carry(x, 0, "a");
        Checks.file(x, 0, 1, 1);
        x.select(0, 0);
        checks.due("again", x.carry(0, Checks.text("a"), 3), 0);
        checks.due("ticks", x.group(0, 0, 3), 3);
        checks.due("high", x.group(0, 0, 0), 1);
        checks.due("articles", x.group(0, 0, 2), 1);
        checks.due("number", x.article(0, 1, 3), 1);
        checks.due("selected", x.about(0, 6), 0);
        checks.due("current", x.about(0, 7), 1);
        x.tick(4);
        checks.due("expires by the new ticks", x.expire(0), 1);
        carry(x, 1, "b");
        Checks.file(x, 0, 2, 3);
        carry(x, 0, "b");
        checks.due("no number in a group carried later", x.article(0, 2, 4), 0);
        checks.due("high of it", x.group(0, 1, 0), 0);
    }

    private static void namesAreChecked() {
        String[] wrong = {"", "A", "a*", "?", "!", "a,b", "a b", "0", "`", "{", "-", "/", "\u0080", "abcdefg\u00ff"};
        for (String name : wrong) {
            NewsFlood x = new NewsFlood(2, 5);
            checks.due("carry of '" + name + "'", carry(x, 0, name), -1);
            checks.due("group after '" + name + "'", carry(x, 0, "a"), 0);
        }
        String[] right = {"a", "z", ".", "..", "a.z", "zzzzzzzz", "........"};
        for (String name : right) {
            checks.due("carry of '" + name + "'", carry(new NewsFlood(2, 5), 0, name), 0);
        }
        NewsFlood x = new NewsFlood(2, 5);
        checks.due("characters behind the end", x.carry(0, Checks.text("a\0b"), 5), -1);
        checks.due("a byte far behind the end", x.carry(0, Checks.text("a") | 1L << 56, 5), -1);
        checks.due("begins with byte 0", x.carry(0, Checks.text("\0a"), 5), -1);
        checks.due("-1", x.carry(0, -1L, 5), -1);
        checks.due("Long.MIN_VALUE", x.carry(0, Long.MIN_VALUE, 5), -1);
    }

    private static void wrongCallsChangeNothing() {
        NewsFlood x = new NewsFlood(2, 5);
        int[] noServers = {-1, 2, 3, 4, Integer.MIN_VALUE, Integer.MAX_VALUE};
        for (int s : noServers) {
            checks.due("carry at " + s, carry(x, s, "a"), -1);
        }
        int[] noTicks = {0, -1, 1001, Integer.MIN_VALUE, Integer.MAX_VALUE};
        for (int keep : noTicks) {
            checks.due("keep " + keep, x.carry(0, Checks.text("a"), keep), -1);
        }
        checks.due("no group was made", x.write(1, 1, 0, 1, 0), false);
        checks.due("keep 1", x.carry(0, Checks.text("b"), 1), 0);
        checks.due("keep 1001 of a carried one", x.carry(0, Checks.text("b"), 1001), -1);
        checks.due("ticks stay", x.group(0, 0, 3), 1);
        checks.due("keep 1000", x.carry(0, Checks.text("b"), 1000), 0);
        checks.due("ticks are 1000", x.group(0, 0, 3), 1000);
    }

    /** "keep is not 1 .. 1000", for a new group and for one that is carried. */
    private static void ticksAtTheirLimits() {
        int[] edges = {-1, 0, 1, 2, 999, 1000, 1001, 1002};
        for (int keep : edges) {
            boolean right = keep >= 1 && keep <= 1000;
            NewsFlood x = new NewsFlood(2, 5);
            checks.due("new, keep " + keep, x.carry(0, Checks.text("a"), keep), right ? 0 : -1);
            checks.due("its ticks", x.group(0, 0, 3), right ? keep : -1);
            x.carry(1, Checks.text("b"), 500);
            int b = right ? 1 : 0;
            checks.due("carried, keep " + keep, x.carry(1, Checks.text("b"), keep), right ? b : -1);
            checks.due("its ticks", x.group(1, b, 3), right ? keep : 500);
        }
    }

    /** "no group has that name and there are 6": a name that is there is carried still. */
    private static void sixGroupsAndNoSeventh() {
        String[] names = {"a", "b", "c", "d", "e", "f"};
        NewsFlood x = new NewsFlood(2, 5);
        for (int g = 0; g < 6; g++) {
            checks.due("carry " + names[g], carry(x, 0, names[g]), g);
        }
        checks.due("a 7th", carry(x, 0, "g"), -1);
        checks.due("a 7th elsewhere", carry(x, 1, "g"), -1);
        for (int g = 0; g < 6; g++) {
            checks.due("not carried elsewhere " + names[g], x.group(1, g, 0), -1);
            checks.due("elsewhere " + names[g], carry(x, 1, names[g]), g);
            checks.due("again " + names[g], x.carry(0, Checks.text(names[g]), g + 1), g);
            checks.due("ticks " + names[g], x.group(0, g, 3), g + 1);
        }
        checks.due("a 7th still", carry(x, 1, "g"), -1);
    }
}
