/** Promise 8: matching and substitution. */
public final class MatchTest {
    public static void main(String[] args) {
        whatMatches();
        leastStartGreatestEnd();
        replacements();
        everywhere();
        emptyMatches();
        anchorsInLoops();
        overflow();
        slowPatternsEnd();
        Check.finish();
    }

    private static void matches(String regex, String line) {
        Feed.dueQuiet("/" + regex + "/p", line, line + "\n");
    }

    private static void fails(String regex, String line) {
        Feed.dueQuiet("/" + regex + "/p", line, "");
    }

    private static void whatMatches() {
        matches("a", "bab");
        fails("a", "bbb");
        fails("a", "A");
        matches("a.c", "xabcx");
        fails("a.c", "ac");
        matches("a\\.c", "a.c");
        fails("a\\.c", "abc");
        matches("ab*c", "ac");
        matches("ab*c", "abbbc");
        fails("ab*c", "abxc");
        matches("^a", "ab");
        fails("^a", "ba");
        matches("a$", "ba");
        fails("a$", "ab");
        matches("^a$", "a");
        fails("^a$", "aa");
        matches("^", "x");
        matches("$", "x");
        Feed.dueQuiet("/^$/p", "\n", "\n");
        Feed.dueQuiet("/./p", "\n", "");
        fails("^$", "x");
        matches("*", "a*");
        fails("*", "aa");
        matches("^*a", "*a");
        fails("^*a", "a");
        matches("^**a", "***a");
        matches("^**a", "a");
        matches("a^", "xa^");
        fails("a^", "a");
        matches("$a", "$a");
        matches("a$b", "a$b");
        matches("\\^a", "b^a");
        fails("\\^a", "a");
        matches("a\\$", "a$b");
        fails("a\\$", "a");
        matches("a\\*", "a*");
        fails("a\\*", "aa");
        matches("\\/", "a/b");
        matches("\\\\", "a\\b");
        matches("^$*$", "$$$");
        matches("$$", "a$");
        fails("$$", "$a");
        matches("^^", "^");
        fails("^^", "a");
        matches("[a]", "[a]");
        fails("[a]", "a");
        matches("\\t", "t");
        matches("^.*.*.*x.*$", "aaxbb");
        matches("^a*ab$", "aaab");
        matches("^a*a*a*aaab$", "aaab");
        matches("^.*aba$", "abababa");
        fails("^.*abc$", "abababa");
        Feed.dueQuiet("N;/a\\nb/p", "a\nb", "a\nb\n");
        Feed.dueQuiet("N;/a.b/p", "a\nb", "a\nb\n");
        Feed.dueQuiet("N;/^b/p", "a\nb", "");
        Feed.dueQuiet("N;/a$/p", "a\nb", "");
        Feed.dueQuiet("N;/anb/p", "a\nb", "");
        Feed.dueQuiet("N;/^.*$/p", "a\nb", "a\nb\n");
        Feed.dueQuiet("N;N;/a\\n*b/p", "a\n\nb", "a\n\nb\n");
        Feed.dueQuiet("/a/!p", "a\nb\nca", "b\n");
    }

    private static void leastStartGreatestEnd() {
        Feed.dueOutput("s/a*/[&]/", "aaab", "[aaa]b\n");
        Feed.dueOutput("s/a*/[&]/", "baaa", "[]baaa\n");
        Feed.dueOutput("s/aa*/[&]/", "baaacaa", "b[aaa]caa\n");
        Feed.dueOutput("s/a.*b/[&]/", "xabcbx", "x[abcb]x\n");
        Feed.dueOutput("s/a*ab/[&]/", "xaaabab", "x[aaab]ab\n");
        Feed.dueOutput("s/a*ab*/[&]/", "xaaabbab", "x[aaabb]ab\n");
        Feed.dueOutput("s/.*/[&]/", "\n", "[]\n");
        Feed.dueOutput("s/a*$/[&]/", "aabaa", "aab[aa]\n");
        Feed.dueOutput("s/x*$/[&]/", "aab", "aab[]\n");
        Feed.dueOutput("s/a*b*/[&]/", "aabbab", "[aabb]ab\n");
    }

    private static void replacements() {
        Feed.dueOutput("s/b/X/", "abcb", "aXcb\n");
        Feed.dueOutput("s/b//", "abcb", "acb\n");
        Feed.dueOutput("s/b/&&/", "abc", "abbc\n");
        Feed.dueOutput("s/b/\\&/", "abc", "a&c\n");
        Feed.dueOutput("s/b/\\\\&/", "abc", "a\\bc\n");
        Feed.dueOutput("s/b/\\//", "abc", "a/c\n");
        Feed.dueOutput("s/b/\\n/", "abc", "a\nc\n");
        Feed.dueOutput("s/b/n/", "abc", "anc\n");
        Feed.dueOutput("s/b/\\x\\1/", "abc", "ax1c\n");
        Feed.dueOutput("s/b/*.^$/", "abc", "a*.^$c\n");
        Feed.dueOutput("s/b.*/<&;&>/", "abc", "a<bc;bc>\n");
        Feed.dueOutput("s/^/> /", "a\nb", "> a\n> b\n");
        Feed.dueOutput("s/$/ </", "a\nb", "a <\nb <\n");
        Feed.dueOutput("s/z/y/", "a\nb", "a\nb\n");
        Feed.dueOutput("s/a/1&/;s/b/2&/;s/a/&3/", "ab", "1a32b\n");
        Feed.dueOutput("1s/a/x&/;2s/a/&y/g", "aa\naa", "xaa\nayay\n");
    }

    private static void everywhere() {
        Feed.dueOutput("s/a/b/g", "aaca", "bbcb\n");
        Feed.dueOutput("s/a/aa/g", "aba", "aabaa\n");
        Feed.dueOutput("s/ab/b/g", "aabb", "abb\n");
        Feed.dueOutput("s/aa/x/g", "aaaaa", "xxa\n");
        Feed.dueOutput("s/.b/[&]/g", "abbbc", "[ab][bb]c\n");
        Feed.dueOutput("s/./&&/g", "abc", "aabbcc\n");
        Feed.dueOutput("s/a/x/g;s/x/a/", "aa", "ax\n");
    }

    private static void emptyMatches() {
        Feed.dueOutput("s/x*/-/g", "abc", "-a-b-c-\n");
        Feed.dueOutput("s/b*/-/g", "abbc", "-a--c-\n");
        Feed.dueOutput("s/b*/-/g", "abb", "-a--\n");
        Feed.dueOutput("s/a*/-/g", "aaa", "--\n");
        Feed.dueOutput("s/x*/-/g", "\n", "-\n");
        Feed.dueOutput("s/$/-/g", "ab", "ab-\n");
        Feed.dueOutput("s/x*/-/", "abc", "-abc\n");
        Feed.dueOutput("s/x*$/-/g", "abxx", "ab--\n");
        Feed.dueOutput("s/x*/[&]/g", "axxb", "[]a[xx][]b[]\n");
    }

    private static void anchorsInLoops() {
        Feed.dueOutput("s/^a/b/g", "aaa", "baa\n");
        Feed.dueOutput("s/^/-/g", "aa", "-aa\n");
        Feed.dueOutput("s/^a*/-/g", "aab", "-b\n");
        Feed.dueOutput("s/^$/-/g", "\n", "-\n");
        Feed.dueOutput("s/a$/b/g", "aaa", "aab\n");
        Feed.dueOutput("s/^.*$/<&>/g", "abc", "<abc>\n");
    }

    private static void overflow() {
        String a64 = "a".repeat(64);
        Feed.dueOutput("s/a/b/g", a64, "b".repeat(64) + "\n");
        Feed.dueOutput("s/a/ab/", "a".repeat(63), "ab" + "a".repeat(62) + "\n");
        Feed.dueOutput("s/a/bb/g", "a".repeat(32), "b".repeat(64) + "\n");
        Feed.dueOutput("s/x*/-/g", "a".repeat(31), "-a".repeat(31) + "-\n");
        Feed.dueOutput("s/a*//g", a64, "\n");
        dueOverflow("s/a/ab/", a64, a64);
        dueOverflow("s/a/bb/g", "a".repeat(33), "a".repeat(33));
        dueOverflow("s/x*/-/g", "a".repeat(32), "a".repeat(32));
        dueOverflow("s/.*/&&&&&&&&&&&&&&&&&&&&&&&&&&&&&&&&&&&&&&&&/", a64, a64);
        dueOverflow("s/x*/&1234567890123456789012345678901234567890/g", a64, a64);
        Feed.dueOutput("s/b/1234567890/", a64, a64 + "\n");
    }

    private static void dueOverflow(String script, String line, String pattern) {
        StreamEditorX x = Feed.editor(script, line);
        Feed.dueRun(x, script, StreamEditorX.RUN_OVERFLOW, "");
        Check.due("pattern space of " + script, Feed.pattern(x), pattern);
        Check.due("lines of " + script, x.linesRead(), 1);
        Check.due("steps of " + script, x.stepsUsed(), 1);
    }

    /** A search that goes through all ways of cutting would not end within a day here. */
    private static void slowPatternsEnd() {
        String line = "a".repeat(63);
        Feed.dueQuiet("/a*a*a*a*a*a*a*a*a*a*a*b/p", line, "");
        StreamEditorX x = Feed.editor(1, 2048, ":a;s/.*.*.*.*.*.*.*.*.*.*.*b/c/g;ba", line);
        Feed.dueRun(x, "the slow loop", StreamEditorX.RUN_OUT_OF_STEPS, "");
    }
}
