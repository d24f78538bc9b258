/** Promise 4: matches. */
public final class MatchesTest {
    private static final Checks checks = new Checks();

    public static void main(String[] args) {
        plainParts();
        starsAndQuestionMarks();
        severalParts();
        wrongTexts();
        everyShortPattern();
        checks.end();
    }

    private static void due(String pattern, String name, boolean want) {
        boolean got = new NewsFlood(2, 5).matches(Checks.text(pattern), Checks.text(name));
        checks.due("matches('" + pattern + "', '" + name + "')", got, want);
    }

    private static void plainParts() {
        due("a", "a", true);
        due("a", "b", false);
        due("a", "aa", false);
        due("aa", "a", false);
        due("a.b", "a.b", true);
        due("a.b", "axb", false);
        due("abcdefgh", "abcdefgh", true);
        due("abcdefgh", "abcdefgi", false);
        due("abcdefgh", "abcdefg", false);
        due("abcdefg", "abcdefgh", false);
    }

    private static void starsAndQuestionMarks() {
        due("*", "a", true);
        due("*", "abcdefgh", true);
        due("********", "abcdefgh", true);
        due("********", "a", true);
        due("*******a", "a", true);
        due("????????", "abcdefgh", true);
        due("???????", "abcdefgh", false);
        due("????????", "abcdefg", false);
        due("?", ".", true);
        due("a*", "a", true);
        due("a*", "ba", false);
        due("*a", "a", true);
        due("*a", "ab", false);
        due("*a*", "bab", true);
        due("*ab", "aab", true);
        due("*ab", "abab", true);
        due("a*b*c", "abcbc", true);
        due("a*b*c", "acb", false);
        due("a*?", "a", false);
        due("a*?", "ab", true);
        due("*?*?*", "a", false);
        due("*?*?*", "ab", true);
        due("*.*", "a.b", true);
        due("*.*", "ab", false);
    }

    private static void severalParts() {
        due("a,b", "a", true);
        due("a,b", "b", true);
        due("a,b", "a.b", false);
        due("*,!a", "a", false);
        due("*,!a", "b", true);
        due("!a,*", "a", true);
        due("*,!a*,ab", "ab", true);
        due("*,!a*,ab", "ac", false);
        due("!a", "a", false);
        due("!a", "b", false);
        due("!", "a", false);
        due("!!a", "a", false);
        due("*,!!a", "a", true);
        due("*,!", "a", true);
        due("*,!*", "a", false);
        due("a!", "a", false);
        due("*!", "a", false);
        due("*!*", "a", false);
        due(",", "a", false);
        due(",,,,,,,,", "a", false);
        due(",a", "a", true);
        due("a,", "a", true);
        due("a,,b", "b", true);
        due("a,!b,b", "b", true);
        due("b,!b,a", "b", false);
        due("!*,?,!a", "b", true);
        due("!*,?,!a", "a", false);
    }

    private static void wrongTexts() {
        due("", "a", false);
        due("a", "", false);
        due("", "", false);
        due("*", "", false);
        due("*", "A", false);
        due("*", "*", false);
        due("*", "a,b", false);
        due("*", "!", false);
        due("*", "?", false);
        due("*", "a\0b", false);
        due("A", "a", false);
        due("*,A", "a", false);
        due("*\0*", "a", false);
        due("*\0\0\0\0\0\0*", "a", false);
        due("\0*", "a", false);
        due("*", "\0a", false);
        due("*", "aaaaaaa\u0080", false);
        due("*,,,,,,\u0080", "a", false);
        NewsFlood x = new NewsFlood(2, 5);
        checks.due("matches(-1, -1)", x.matches(-1L, -1L), false);
        checks.due("matches(*, MIN)", x.matches(Checks.text("*"), Long.MIN_VALUE), false);
        for (int c = 0; c < 256; c++) {
            String one = String.valueOf((char) c);
            due("*", one, "abcdefghijklmnopqrstuvwxyz.".contains(one) && c != 0);
            due("*," + one + ",*", "a", c == 0 ? false : "abcdefghijklmnopqrstuvwxyz.*?!,".contains(one));
        }
    }

    /** All patterns of up to five of these characters, against another way of matching. */
    private static void everyShortPattern() {
        String[] names = {"a", "b", "ab", "ba", "aab", "abab"};
        String characters = "ab*?!,";
        for (int number = 0; number < 7 * 7 * 7 * 7 * 7; number++) {
            StringBuilder pattern = new StringBuilder();
            for (int rest = number; rest > 0; rest /= 7) {
                if (rest % 7 > 0) {
                    pattern.append(characters.charAt(rest % 7 - 1));
                }
            }
            for (String name : names) {
                due(pattern.toString(), name, Model.patternMatches(pattern.toString(), name));
            }
        }
    }
}
