/** Counts the answers that are not as due, and ends a test with exit code 1 if there were any. */
final class Checks {
    private int wrong;

    void due(String call, long got, long want) {
        if (got != want) {
            wrong++;
            System.out.println(call + " answered " + got + ", due is " + want);
        }
    }

    void due(String call, boolean got, boolean want) {
        due(call, got ? 1 : 0, want ? 1 : 0);
    }

    boolean areAllAsDue() {
        return wrong == 0;
    }

    void end() {
        System.out.println(wrong == 0 ? "all answers are as due" : wrong + " answers are not as due");
        if (wrong != 0) {
            System.exit(1);
        }
    }

    /** A text as the calls take it: character k in byte k. */
    static long text(String characters) {
        long text = 0;
        for (int k = 0; k < characters.length(); k++) {
            text |= (long) characters.charAt(k) << 8 * k;
        }
        return text;
    }

    /** Server s gets an article of size 1 in the groups, dated now, posted and received whole. */
    static int file(NewsFlood x, int s, int id, int groups) {
        return file(x, s, id, groups, 1, 0);
    }

    static int file(NewsFlood x, int s, int id, int groups, int size, int cancels) {
        x.write(id, groups, x.tick(0), size, cancels);
        int answer = x.post(s, id, 0);
        return answer == 340 ? x.receive(s, size) : answer;
    }
}
