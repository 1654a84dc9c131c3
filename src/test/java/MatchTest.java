/** Promise 8: matching, sentence by sentence. */
public final class MatchTest {
    private static final String A63 = Runs.A63;
    private static final String A64 = Runs.A64;

    public static void main(String[] args) {
        anyCharAtoms();
        literalAtoms();
        startAnchor();
        endAnchor();
        unstarredPieces();
        starredPieces();
        someMatchExists();
        leastStart();
        greatestEnd();
        slowPatternsEnd();
        Check.finish();
    }

    private static void matches(String regex, String line) {
        Feed.dueQuiet("/" + regex + "/p", line + "\n", line + "\n");
    }

    private static void fails(String regex, String line) {
        Feed.dueQuiet("/" + regex + "/p", line + "\n", "");
    }

    /** Shows the first match by brackets around it. */
    private static void finds(String regex, String line, String want) {
        Feed.dueOutput("s/" + regex + "/[&]/", line + "\n", want + "\n");
    }

    private static void anyCharAtoms() {
        Check.sentence("An any-char atom matches every char (10 too);");
        for (char c = 32; c <= 126; c++) {
            matches("^a.b$", "a" + c + "b");
        }
        Feed.dueQuiet("N;/^a.b$/p", "a\nb", "a\nb\n");
        Feed.dueQuiet("N;/^.*$/p", "a\nb", "a\nb\n");
        Feed.dueQuiet("G;/^.$/p", "\n", "\n\n");
        Feed.dueQuiet("N;/^a..b$/p", "a\nb", "");
    }

    private static void literalAtoms() {
        Check.sentence("a literal atom only its own char.");
        for (char c = 32; c <= 126; c++) {
            if (c == '#') {
                matches("^\\#$", "" + c);
            } else {
                fails("#", "" + c);
            }
        }
        fails("a", "A");
        fails("a\\.c", "abc");
        Feed.dueQuiet("N;/a\\nb/p", "a\nb", "a\nb\n");
        Feed.dueQuiet("N;/anb/p", "a\nb", "");
        Feed.dueQuiet("N;/a b/p", "a\nb", "");
    }

    private static void startAnchor() {
        Check.sentence("such that i = 0 if there is a start anchor,");
        matches("^a", "ab");
        matches("^a", "a");
        fails("^a", "ba");
        fails("^a", "");
        matches("^", "");
        matches("^", "x");
        matches("^", A64);
        fails("^b", "a".repeat(63) + "b");
        Feed.dueQuiet("N;/^b/p", "a\nb", "");
        Feed.dueQuiet("N;/^a/p", "a\nb", "a\nb\n");
        Feed.dueOutput("s/^a/b/g", "aaa", "baa\n");
        Feed.dueOutput("s/^/-/g", "aa", "-aa\n");
        Feed.dueOutput("s/^a*/-/g", "aab", "-b\n");
    }

    private static void endAnchor() {
        Check.sentence("j = n if there is an end anchor,");
        matches("a$", "ba");
        matches("a$", "a");
        fails("a$", "ab");
        fails("a$", "");
        matches("$", "");
        matches("$", "x");
        matches("$", A64);
        matches("b$", "a".repeat(63) + "b");
        fails("b$", "b" + "a".repeat(63));
        matches("^$", "");
        fails("^$", "x");
        matches("^a$", "a");
        fails("^a$", "aa");
        Feed.dueQuiet("N;/a$/p", "a\nb", "");
        Feed.dueQuiet("N;/b$/p", "a\nb", "a\nb\n");
        Feed.dueOutput("s/a$/b/g", "aaa", "aab\n");
        Feed.dueOutput("s/^.*$/<&>/g", "abc", "<abc>\n");
        finds("a*$", "aabaa", "aab[aa]");
        finds("x*$", "aab", "aab[]");
        finds("a*b*$", "abaabb", "ab[aabb]");
    }

    private static void unstarredPieces() {
        Check.sentence("a piece having length exactly 1 for an unstarred atom");
        matches("abc", "xabcx");
        fails("abc", "ab");
        fails("abc", "abbc");
        fails(".", "");
        fails("..", "a");
        matches("..", "ab");
        fails("............", "a".repeat(11));
        matches("............", "a".repeat(12));
        fails("^............$", "a".repeat(13));
        matches("a", "a".repeat(64));
    }

    private static void starredPieces() {
        Check.sentence("and any length 0.. for a starred one.");
        matches("^ab*c$", "ac");
        matches("^ab*c$", "abc");
        matches("^ab*c$", "abbbc");
        fails("^ab*c$", "abxc");
        matches("^b*$", "");
        matches("^a*$", A64);
        fails("^a*$", A63 + "b");
        matches("^a*b$", A63 + "b");
        matches("^.*$", "");
        matches("^.*.*.*.*.*.*.*.*.*.*.*.*$", "");
        matches("^a*b*c*d*e*f*g*h*i*j*k*l*$", "al");
        fails("^a*b*c*d*e*f*g*h*i*j*k*l*$", "la");
        Feed.dueQuiet("N;N;/^a\\n*b$/p", "a\n\nb", "a\n\nb\n");
        finds("a*", A64.substring(2), "[" + A64.substring(2) + "]");
    }

    private static void someMatchExists() {
        Check.sentence("The regex matches T iff some match exists.");
        matches("a*ab", "aaab");
        matches("^a*a*a*aaab$", "aaab");
        fails("^a*a*a*aaab$", "aab");
        matches("^.*aba$", "abababa");
        fails("^.*abc$", "abababa");
        matches("^.*.*.*x.*$", "aaxbb");
        matches("x*", "");
        matches("x*", "abc");
        matches("a.*b.*c", "xaybzc");
        fails("a.*b.*c", "xbyazc");
        matches("aab", "aaab");
        matches("abac", "ababac");
    }

    private static void leastStart() {
        Check.sentence("The first match from p is, among the matches with i >= p, the one with least i");
        finds("b", "abcb", "a[b]cb");
        finds("aa*", "baaacaa", "b[aaa]caa");
        finds("a*", "baaa", "[]baaa");
        finds("ab", "aab", "a[ab]");
        finds("b", "a".repeat(61) + "b", "a".repeat(61) + "[b]");
        Feed.dueOutput("s/aa/x/g", "aaaaa", "xxa\n");
        Feed.dueOutput("s/.b/[&]/g", "abbbc", "[ab][bb]c\n");
    }

    private static void greatestEnd() {
        Check.sentence("and, for that i, greatest j; there is none if no match has i >= p.");
        finds("a*", "aaab", "[aaa]b");
        finds("a.*b", "xabcbx", "x[abcb]x");
        finds("a*ab", "xaaabab", "x[aaab]ab");
        finds("a*ab*", "xaaabbab", "x[aaabb]ab");
        finds("a*b*", "aabbab", "[aabb]ab");
        finds(".*", "abc", "[abc]");
        finds(".*", "", "[]");
        finds("x*y*", "yx", "[y]x");
        finds("x*.", "xx", "[xx]");
        finds("x*.", "xxy", "[xxy]");
        finds("z", "abc", "abc");
        finds("^b", "ab", "ab");
    }

    /** A search that goes through all ways of cutting would not end within a day here. */
    private static void slowPatternsEnd() {
        Check.sentence("The regex matches T iff some match exists.");
        Feed.dueQuiet("/a*a*a*a*a*a*a*a*a*a*a*b/p", A63, "");
        StreamEditorX x = Feed.editor(1, 2048, ":a;s/.*.*.*.*.*.*.*.*.*.*.*b/c/g;ba", A63);
        Feed.dueRun(x, "the slow loop", StreamEditorX.RUN_OUT_OF_STEPS, "");
    }
}
