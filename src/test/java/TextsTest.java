/** The sentences on texts in "Terms", at each of their limits; see also MatchesTest. */
public final class TextsTest {
    private static final Checks checks = new Checks();
    private static final String OF_NAMES = "abcdefghijklmnopqrstuvwxyz.";
    private static final String OF_PATTERNS = OF_NAMES + "*?!,";

    public static void main(String[] args) {
        oneToEightCharacters();
        everyCharacterAtEveryPlace();
        bytesAboveTheEnd();
        zeroIsNoPatternButStopsFeeding();
        emptyParts();
        negatedParts();
        starStandsForAnyCharactersAlsoNone();
        questionMarkStandsForOneCharacter();
        lastPartThatFits();
        checks.end();
    }

    private static void isName(long name, boolean want) {
        String call = "name " + Long.toHexString(name);
        checks.due("carry of " + call, new NewsFlood(2, 5).carry(0, name, 5), want ? 0 : -1);
        checks.due("matches with " + call, new NewsFlood(2, 5).matches(Checks.text("*"), name), want);
    }

    private static void isPattern(long pattern, boolean want) {
        String call = "pattern " + Long.toHexString(pattern);
        checks.due("peer by " + call, new NewsFlood(2, 5).peer(0, 1, pattern), want);
    }

    private static void matches(String pattern, String name, boolean want) {
        boolean got = new NewsFlood(2, 5).matches(Checks.text(pattern), Checks.text(name));
        checks.due("matches('" + pattern + "', '" + name + "')", got, want);
    }

    /** "a text has 1 to 8 characters"; a long has no room for nine. */
    private static void oneToEightCharacters() {
        isName(0, false);
        for (int length = 1; length <= 8; length++) {
            isName(Checks.text("z".repeat(length)), true);
            isPattern(Checks.text("?".repeat(length)), true);
        }
        NewsFlood x = new NewsFlood(2, 5);
        checks.due("8 characters", x.carry(0, Checks.text("abcdefgh"), 5), 0);
        checks.due("7 of them are another name", x.carry(0, Checks.text("abcdefg"), 5), 1);
        checks.due("and another last one too", x.carry(0, Checks.text("abcdefgi"), 5), 2);
        checks.due("the first again", x.carry(1, Checks.text("abcdefgh"), 5), 0);
    }

    /** "the characters a to z and the dot alone"; "these and * ? ! and the comma"; a byte 0 ends it. */
    private static void everyCharacterAtEveryPlace() {
        for (int place = 0; place < 8; place++) {
            long others = Checks.text("aaaaaaaa") & ~(255L << 8 * place);
            for (int c = 1; c < 256; c++) {
                long text = others | (long) c << 8 * place;
                isName(text, OF_NAMES.indexOf(c) >= 0);
                isPattern(text, OF_PATTERNS.indexOf(c) >= 0);
            }
            isName(others, place == 7);
            isPattern(others, place == 7);
        }
    }

    /** "the first byte 0 ends the text, and all bytes above it are 0 too". */
    private static void bytesAboveTheEnd() {
        for (int length = 1; length < 8; length++) {
            long text = Checks.text("a".repeat(length));
            isName(text, true);
            isPattern(text, true);
            for (int bit = 8 * length + 8; bit < 64; bit++) {
                isName(text | 1L << bit, false);
                isPattern(text | 1L << bit, false);
            }
            if (length < 7) {
                isName(text | (long) 'a' << 8 * length + 8, false);
                isPattern(text | (long) '*' << 56, false);
            }
        }
    }

    private static void zeroIsNoPatternButStopsFeeding() {
        NewsFlood x = new NewsFlood(2, 5);
        checks.due("peer by 0", x.peer(0, 1, 0), true);
        checks.due("matches by 0", x.matches(0, Checks.text("a")), false);
    }

    /** "cut at its commas into PARTS (which may be empty)": an empty text is no name's. */
    private static void emptyParts() {
        String[] empty = {",", ",,", ",,,,,,,,", "!", "!,", ",!", "!,!,!,!,"};
        for (String pattern : empty) {
            isPattern(Checks.text(pattern), true);
            matches(pattern, "a", false);
            matches(pattern, ".", false);
        }
        matches(",a", "a", true);
        matches("a,", "a", true);
        matches(",a,", "a", true);
        matches(",,a,,", "a", true);
        matches("a,,b", "a", true);
        matches("a,,b", "b", true);
        matches("a,!", "a", true);
        matches("!,a", "a", true);
        matches("a,b", "ab", false);
    }

    /** "what is behind that ! is its text"; "a ! in a text stands for itself", and no name has one. */
    private static void negatedParts() {
        matches("!a", "a", false);
        matches("a,!a", "a", false);
        matches("a,!!a", "a", true);
        matches("a,!!", "a", true);
        matches("a,!a!", "a", true);
        matches("a!", "a", false);
        matches("?!", "ab", false);
        matches("*!*", "a", false);
        matches("*,!*!*", "a", true);
        matches("a!,a", "a", true);
        matches("*,!?", "a", false);
        matches("*,!?", "ab", true);
    }

    private static void starStandsForAnyCharactersAlsoNone() {
        for (int length = 1; length <= 8; length++) {
            String name = "a".repeat(length);
            matches("*", name, true);
            matches("********", name, true);
            matches(name.substring(1) + "*", name, true);
            matches("*" + name.substring(1), name, true);
            matches(name.substring(0, Math.min(length, 7)) + "*", name, true);
            matches("*" + name.substring(0, Math.min(length, 7)), name, true);
            matches("*b", name, false);
            matches("b*", name, false);
            matches("a*a", name, length >= 2);
            matches("a*a*a", name, length >= 3);
        }
        matches("aaaaaaa*", "aaaaaa", false);
        matches("*aaaaaaa", "aaaaaa", false);
    }

    private static void questionMarkStandsForOneCharacter() {
        for (int marks = 1; marks <= 8; marks++) {
            for (int length = 1; length <= 8; length++) {
                matches("?".repeat(marks), "z".repeat(length), marks == length);
                if (marks < 8) {
                    matches("?".repeat(marks) + "*", ".".repeat(length), marks <= length);
                }
            }
        }
    }

    /** "some part fits it, and the last part that fits it is not negated". */
    private static void lastPartThatFits() {
        matches("a,!a,a", "a", true);
        matches("!a,a,!a", "a", false);
        matches("a,!a,b", "a", false);
        matches("!a,a,!b", "a", true);
        matches("*,!a,b", "c", true);
        matches("b,!c,d", "a", false);
        matches("!b", "a", false);
    }
}
