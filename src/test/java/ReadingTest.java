/** Promises 12 to 15: select, step, stat and over. */
public final class ReadingTest {
    private static final Checks checks = new Checks();

    public static void main(String[] args) {
        selecting();
        selectingRefused();
        stepping();
        steppingFromAGap();
        statting();
        counting();
        wrongServers();
        groupsOfNoneOneAndTwo();
        everyGroupNumber();
        stepsFromEachNumber();
        statOfEachNumber();
        everyRangeOfNumbers();
        readersAreApart();
        checks.end();
    }

    /** IDs 5, 3, 8, 1 have the numbers 1, 2, 3, 4 in group 0; 3 and 1 have 1 and 2 in group 1. */
    private static NewsFlood four() {
        NewsFlood x = new NewsFlood(2, 50);
        x.carry(0, Checks.text("a"), 10);
        x.carry(0, Checks.text("b"), 100);
        x.carry(1, Checks.text("c"), 10);
        Checks.file(x, 0, 5, 1);
        Checks.file(x, 0, 3, 3);
        Checks.file(x, 0, 8, 1);
        Checks.file(x, 0, 1, 3);
        return x;
    }

    private static void selecting() {
        NewsFlood x = four();
        checks.due("select(0, 0)", x.select(0, 0), 4);
        checks.due("selected", x.about(0, 6), 0);
        checks.due("current", x.about(0, 7), 1);
        checks.due("select(0, 1)", x.select(0, 1), 2);
        checks.due("selected", x.about(0, 6), 1);
        checks.due("current", x.about(0, 7), 1);
        Checks.file(x, 0, 9, 1, 1, 5);
        checks.due("select anew", x.select(0, 0), 4);
        checks.due("the lowest now", x.about(0, 7), 2);
        checks.due("an empty group", x.select(1, 2), 0);
        checks.due("selected", x.about(1, 6), 2);
        checks.due("current", x.about(1, 7), -1);
        checks.due("step", x.step(1, true), -1);
        checks.due("step back", x.step(1, false), -1);
        checks.due("stat(0)", x.stat(1, 0), -1);
        Checks.file(x, 1, 20, 4);
        checks.due("current stays none", x.about(1, 7), -1);
        checks.due("step", x.step(1, true), -1);
        checks.due("stat(0)", x.stat(1, 0), -1);
        checks.due("stat(1)", x.stat(1, 1), 20);
        checks.due("current", x.about(1, 7), 1);
    }

    private static void selectingRefused() {
        NewsFlood x = four();
        x.select(0, 1);
        x.step(0, true);
        int[] noGroups = {2, 3, 5, 6, 7, -1, Integer.MIN_VALUE, Integer.MAX_VALUE};
        for (int g : noGroups) {
            checks.due("select(0, " + g + ")", x.select(0, g), -1);
        }
        checks.due("selected stays", x.about(0, 6), 1);
        checks.due("current stays", x.about(0, 7), 2);
        checks.due("carried elsewhere", x.select(1, 0), -1);
        checks.due("selected stays none", x.about(1, 6), -1);
    }

    private static void stepping() {
        NewsFlood x = four();
        x.select(0, 0);
        checks.due("none below", x.step(0, false), -1);
        checks.due("current stays", x.about(0, 7), 1);
        checks.due("2", x.step(0, true), 3);
        checks.due("3", x.step(0, true), 8);
        checks.due("4", x.step(0, true), 1);
        checks.due("none above", x.step(0, true), -1);
        checks.due("current stays", x.about(0, 7), 4);
        checks.due("back to 3", x.step(0, false), 8);
        checks.due("current", x.about(0, 7), 3);
        checks.due("nothing selected", x.step(1, true), -1);
        checks.due("nothing selected", x.step(1, false), -1);
    }

    private static void steppingFromAGap() {
        NewsFlood x = four();
        x.select(0, 0);
        x.stat(0, 3);
        Checks.file(x, 0, 20, 2, 1, 8);
        checks.due("current stays", x.about(0, 7), 3);
        checks.due("stat(0)", x.stat(0, 0), -1);
        checks.due("stat(3)", x.stat(0, 3), -1);
        checks.due("forward from the gap", x.step(0, true), 1);
        checks.due("back over the gap", x.step(0, false), 3);
        checks.due("forward over the gap", x.step(0, true), 1);
        x.tick(11);
        x.expire(0);
        checks.due("all have expired", x.step(0, false), -1);
        checks.due("current stays", x.about(0, 7), 4);
        Checks.file(x, 0, 30, 1);
        checks.due("a later one", x.step(0, true), 30);
        checks.due("its number", x.about(0, 7), 5);
    }

    private static void statting() {
        NewsFlood x = four();
        checks.due("nothing selected", x.stat(0, 1), -1);
        checks.due("nothing selected", x.stat(0, 0), -1);
        x.select(0, 1);
        checks.due("stat(0)", x.stat(0, 0), 3);
        checks.due("stat(2)", x.stat(0, 2), 1);
        checks.due("current", x.about(0, 7), 2);
        checks.due("stat(0)", x.stat(0, 0), 1);
        int[] noNumbers = {3, 4, 41, -1, -2, Integer.MIN_VALUE, Integer.MAX_VALUE};
        for (int number : noNumbers) {
            checks.due("stat(" + number + ")", x.stat(0, number), -1);
        }
        checks.due("current stays", x.about(0, 7), 2);
        checks.due("stat(1)", x.stat(0, 1), 3);
    }

    private static void counting() {
        NewsFlood x = four();
        checks.due("nothing selected", x.over(0, 0, 9), 0);
        x.select(0, 0);
        checks.due("1 .. 4", x.over(0, 1, 4), 4);
        checks.due("2 .. 3", x.over(0, 2, 3), 2);
        checks.due("3 .. 3", x.over(0, 3, 3), 1);
        checks.due("3 .. 2", x.over(0, 3, 2), 0);
        checks.due("5 .. 9", x.over(0, 5, 9), 0);
        checks.due("-9 .. 0", x.over(0, -9, 0), 0);
        checks.due("-9 .. 1", x.over(0, -9, 1), 1);
        checks.due("all", x.over(0, Integer.MIN_VALUE, Integer.MAX_VALUE), 4);
        x.select(0, 1);
        checks.due("all of group 1", x.over(0, Integer.MIN_VALUE, Integer.MAX_VALUE), 2);
        Checks.file(x, 0, 20, 1, 1, 3);
        checks.due("without the cancelled one", x.over(0, 1, 9), 1);
        checks.due("current stays", x.about(0, 7), 1);
    }

    private static void wrongServers() {
        NewsFlood x = four();
        x.select(0, 0);
        int[] noServers = {-1, 2, 3, Integer.MIN_VALUE, Integer.MAX_VALUE};
        for (int s : noServers) {
            checks.due("select at " + s, x.select(s, 0), -1);
            checks.due("step at " + s, x.step(s, true), -1);
            checks.due("stat at " + s, x.stat(s, 1), -1);
            checks.due("over at " + s, x.over(s, 0, 9), 0);
        }
    }

    /** "the lowest of an article in it, or none if there is no article in it". */
    private static void groupsOfNoneOneAndTwo() {
        for (int count = 0; count <= 2; count++) {
            NewsFlood x = new NewsFlood(2, 50);
            x.carry(0, Checks.text("a"), 10);
            Checks.file(x, 0, 40, 1);
            for (int id = 1; id <= count; id++) {
                Checks.file(x, 0, id, 1);
            }
            x.carry(0, Checks.text("b"), 10);
            Checks.file(x, 0, 39, 2, 1, 40);
            checks.due("select of " + count, x.select(0, 0), count);
            checks.due("selected", x.about(0, 6), 0);
            checks.due("current of " + count, x.about(0, 7), count == 0 ? -1 : 2);
            checks.due("stat of " + count, x.stat(0, 0), count == 0 ? -1 : 1);
            checks.due("step of " + count, x.step(0, true), count == 2 ? 2 : -1);
            checks.due("over of " + count, x.over(0, 0, 9), count);
        }
    }

    /** "it does not carry group g": each g, where server 0 carries 0 and 1 and server 1 carries 2. */
    private static void everyGroupNumber() {
        for (int g = -2; g <= 8; g++) {
            NewsFlood x = four();
            checks.due("select(0, " + g + ")", x.select(0, g), g == 0 ? 4 : g == 1 ? 2 : -1);
            checks.due("selected", x.about(0, 6), g == 0 || g == 1 ? g : -1);
            checks.due("select(1, " + g + ")", x.select(1, g), g == 2 ? 0 : -1);
            checks.due("selected", x.about(1, 6), g == 2 ? 2 : -1);
            checks.due("current", x.about(1, 7), -1);
        }
    }

    /** "the least number above it", "the greatest below it", where 1, 3 and 5 of 1 .. 6 are gone. */
    private static void stepsFromEachNumber() {
        int[] ids = {0, 1, 40, 2, 39, 3, 38};
        for (int from = 1; from <= 6; from++) {
            for (int way = 0; way < 2; way++) {
                NewsFlood x = new NewsFlood(2, 50);
                x.carry(0, Checks.text("a"), 10);
                x.carry(0, Checks.text("b"), 10);
                for (int number = 1; number <= 6; number++) {
                    Checks.file(x, 0, ids[number], 1);
                }
                x.select(0, 0);
                x.stat(0, from);
                for (int number = 1; number <= 5; number += 2) {
                    Checks.file(x, 0, 20 + number, 2, 1, ids[number]);
                }
                int next = way == 1 ? from + 1 + (from + 1) % 2 : from - 1 - (from - 1) % 2;
                boolean there = next >= 2 && next <= 6;
                String call = "step from " + from + (way == 1 ? " forward" : " back");
                checks.due(call, x.step(0, way == 1), there ? ids[next] : -1);
                checks.due(call + ", current", x.about(0, 7), there ? next : from);
            }
        }
    }

    /** "there is no such article or no current number": each number around 1 .. 4, where 2 is gone. */
    private static void statOfEachNumber() {
        int[] ids = {0, 5, 0, 8, 1};
        for (int number = -2; number <= 6; number++) {
            NewsFlood x = four();
            x.select(0, 0);
            x.stat(0, 3);
            Checks.file(x, 0, 20, 2, 1, 3);
            boolean there = number == 1 || number == 3 || number == 4;
            int want = number == 0 ? 8 : there ? ids[number] : -1;
            checks.due("stat(" + number + ")", x.stat(0, number), want);
            checks.due("current behind stat(" + number + ")", x.about(0, 7), there ? number : 3);
        }
    }

    /** "have numbers from .. to": each range around 1 .. 4, where 2 is gone. */
    private static void everyRangeOfNumbers() {
        boolean[] there = {false, true, false, true, true, false};
        for (int from = -1; from <= 6; from++) {
            NewsFlood x = four();
            x.select(0, 0);
            Checks.file(x, 0, 20, 2, 1, 3);
            for (int to = -1; to <= 6; to++) {
                int want = 0;
                for (int number = Math.max(0, from); number <= Math.min(to, 5); number++) {
                    want += there[number] ? 1 : 0;
                }
                checks.due("over(" + from + ", " + to + ")", x.over(0, from, to), want);
            }
            checks.due("MIN .. " + from, x.over(0, Integer.MIN_VALUE, from), x.over(0, 1, from));
            checks.due(from + " .. MAX", x.over(0, from, Integer.MAX_VALUE), x.over(0, from, 4));
            checks.due("MAX .. MIN", x.over(0, Integer.MAX_VALUE, Integer.MIN_VALUE), 0);
        }
    }

    /** "Every server has one reader". */
    private static void readersAreApart() {
        NewsFlood x = four();
        x.carry(1, Checks.text("a"), 10);
        Checks.file(x, 1, 9, 1);
        Checks.file(x, 1, 10, 1);
        x.select(0, 0);
        x.select(1, 0);
        checks.due("step of 1", x.step(1, true), 10);
        checks.due("current of 0", x.about(0, 7), 1);
        checks.due("stat of 0", x.stat(0, 4), 1);
        checks.due("current of 1", x.about(1, 7), 2);
        x.select(0, 1);
        checks.due("selected of 1", x.about(1, 6), 0);
        x.crash(0);
        checks.due("current of 1", x.about(1, 7), 2);
    }
}
