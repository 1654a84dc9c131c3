/** Promise 8: substitution, sentence by sentence. */
public final class SubstitutionTest {
    private static final String A60 = Runs.A60;
    private static final String A62 = "a".repeat(62);
    private static final String A63 = Runs.A63;
    private static final String A64 = Runs.A64;

    public static void main(String[] args) {
        replacing();
        emptyMatchBeforeAChar();
        emptyMatchAtTheEnd();
        withoutTheFlag();
        restIsAppended();
        overflow();
        fitting();
        testFlag();
        noMatch();
        originalText();
        Check.finish();
    }

    private static void replacing() {
        Check.sentence("Append T[p..i-1] to R, then the replacement ('&' giving T[i..j-1]). If j > i then p = j;");
        Feed.dueOutput("s/b/X/", "abc", "aXc\n");
        Feed.dueOutput("s/a/X/", "abc", "Xbc\n");
        Feed.dueOutput("s/c/X/", "abc", "abX\n");
        Feed.dueOutput("s/abc/X/", "abc", "X\n");
        Feed.dueOutput("s/a/b/g", "aaca", "bbcb\n");
        Feed.dueOutput("s/a/b/g", "xaxax", "xbxbx\n");
        Feed.dueOutput("s/b.*/<&;&>/g", "abc", "a<bc;bc>\n");
        Feed.dueOutput("s/a/1&/;s/b/2&/;s/a/&3/", "ab", "1a32b\n");
        Feed.dueOutput("1s/a/x&/;2s/a/&y/g", "aa\naa", "xaa\nayay\n");
        Feed.dueOutput("s/./&&/g", "abc", "aabbcc\n");
        Feed.dueOutput("s/b/\\n/;s/\\n/-/", "abc", "a-c\n");
    }

    private static void emptyMatchBeforeAChar() {
        Check.sentence("else if i < n, append T[i] to R and p = i + 1;");
        Feed.dueOutput("s/x*/-/", "abc", "-abc\n");
        Feed.dueOutput("s/x*/-/g", "abc", "-a-b-c-\n");
        Feed.dueOutput("s/b*/-/g", "abbc", "-a--c-\n");
        Feed.dueOutput("s/x*/[&]/g", "axxb", "[]a[xx][]b[]\n");
        Feed.dueOutput("s/^/> /", "a\nb", "> a\n> b\n");
        Feed.dueOutput("s/^/> /g", "ab", "> ab\n");
        Feed.dueOutput("s/x*//g", "abc", "abc\n");
    }

    private static void emptyMatchAtTheEnd() {
        Check.sentence("else p = n + 1. Without the g flag, or if p = n + 1, leave the loop.");
        Feed.dueOutput("s/$/-/", "ab", "ab-\n");
        Feed.dueOutput("s/$/-/g", "ab", "ab-\n");
        Feed.dueOutput("s/x*/-/", "\n", "-\n");
        Feed.dueOutput("s/x*/-/g", "\n", "-\n");
        Feed.dueOutput("s/^$/-/g", "\n", "-\n");
        Feed.dueOutput("s/.*/-/", "\n", "-\n");
        Feed.dueOutput("s/b*/-/g", "abb", "-a--\n");
        Feed.dueOutput("s/a*/-/g", "aaa", "--\n");
        Feed.dueOutput("s/.*/-/g", "abc", "--\n");
        Feed.dueOutput("s/x*$/-/g", "abxx", "ab--\n");
        Feed.dueOutput("s/x*$/-/g", "ab", "ab-\n");
        Feed.dueOutput("s/$/-/g", A63, A63 + "-\n");
        Feed.dueOutput("s/x*$//g", A64, A64 + "\n");
    }

    private static void withoutTheFlag() {
        Check.sentence("Without the g flag, [..] leave the loop.");
        Feed.dueOutput("s/a/b/", "aaa", "baa\n");
        Feed.dueOutput("s/x*/-/", "ab", "-ab\n");
        Feed.dueOutput("s/a*/-/", "aab", "-b\n");
        Feed.dueOutput("s/a*/-/", "aa", "-\n");
        Feed.dueOutput("s/a/x/g;s/x/a/", "aa", "ax\n");
        Feed.dueOutput("s/a/b/;s/a/c/g", "aaa", "bcc\n");
    }

    private static void restIsAppended() {
        Check.sentence("After the loop, if p <= n append T[p..n-1] to R.");
        Feed.dueOutput("s/a/b/", "axyz", "bxyz\n");
        Feed.dueOutput("s/a/b/g", "aaxyz", "bbxyz\n");
        Feed.dueOutput("s/z/b/", "axyz", "axyb\n");
        Feed.dueOutput("s/a/b/", A64, "b" + A63 + "\n");
        Feed.dueOutput("s/^/b/", A63, "b" + A63 + "\n");
    }

    private static void overflow() {
        Check.sentence("if R is longer than 64 the run stops with `RUN_OVERFLOW` (pattern space and t flag unchanged);");
        dueOverflow("s/a/ab/", A64);
        dueOverflow("s/^/b/", A64);
        dueOverflow("s/$/b/", A64);
        dueOverflow("s/x*/b/g", A64);
        dueOverflow("s/a/bb/g", "a".repeat(33));
        dueOverflow("s/x*/-/g", "a".repeat(32));
        dueOverflow("s/a/" + "b".repeat(65) + "/", "a");
        Runs.overflow("s/a/" + "b".repeat(123) + "/", "a", "|a||1|1");
        Runs.overflow("s/x*/" + "&".repeat(60) + "b".repeat(61) + "/g", A64, "|" + A64 + "||1|1");
        dueOverflow("s/.*/&&/", "a".repeat(33));
        dueOverflow("s/.*/&&&&&&&&&&&&&&&&&&&&&&&&&&&&&&&&&&&&&&&&/", A64);
        dueOverflow("s/x*/&1234567890123456789012345678901234567890/g", A64);
        // The tail alone makes R too long.
        dueOverflow("s/a/bbb/", A63);
        Runs.overflow("h;s/a/b/;s/b/ccc/;t;p", A63, "|b" + A62 + "|" + A63 + "|1|3");
        Runs.overflow("s/a/bbb/", "a\n" + A63, "bbb\n|" + A63 + "||2|2");
    }

    private static void dueOverflow(String script, String line) {
        Runs.overflow(script, line, "|" + line + "||1|1");
        Runs.overflowQuiet("p;" + script + ";p;h", line, line + "\n|" + line + "||1|2");
    }

    private static void fitting() {
        Check.sentence("else the pattern space becomes R");
        Feed.dueOutput("s/a/b/g", A64, "b".repeat(64) + "\n");
        Feed.dueOutput("s/a/ab/", A63, "ab" + A62 + "\n");
        Feed.dueOutput("s/$/b/", A63, A63 + "b\n");
        Feed.dueOutput("s/a/bb/g", "a".repeat(32), "b".repeat(64) + "\n");
        Feed.dueOutput("s/x*/-/g", "a".repeat(31), "-a".repeat(31) + "-\n");
        Feed.dueOutput("s/.*/&&/", "a".repeat(32), A64 + "\n");
        Feed.dueOutput("s/a/" + "b".repeat(64) + "/", "a", "b".repeat(64) + "\n");
        Feed.dueOutput("s/aaaa/bbbb/g", A60 + "aaaa", "b".repeat(64) + "\n");
        Feed.dueOutput("s/a*//g", A64, "\n");
        Runs.doneQuiet("s/b/xyz/", "abc", "|axyzc||1|1");
        Runs.doneQuiet("s/bc//", "abcd", "|ad||1|1");
        Feed.dueOutput("s/aa*/" + "b".repeat(63) + "/", A63 + "c", "b".repeat(63) + "c\n");
    }

    private static void testFlag() {
        Check.sentence("and the t flag becomes true (even if R equals T).");
        Runs.done("s/a/b/;t;p", "a", "b\n|b||1|2");
        Runs.done("s/a/a/;t;p", "a", "a\n|a||1|2");
        Runs.done("s/a/&/;t;p", "a", "a\n|a||1|2");
        Runs.done("s/x*//;t;p", "a", "a\n|a||1|2");
        Runs.done("s/$//;t;p", "\n", "\n|||1|2");
        Runs.done("s/x*//g;t;p", "a", "a\n|a||1|2");
    }

    private static void noMatch() {
        Check.sentence("If no match was taken nothing changes.");
        Feed.dueOutput("s/z/y/", "a\nb", "a\nb\n");
        Feed.dueOutput("s/b/1234567890/", A64, A64 + "\n");
        Feed.dueOutput("s/b/1234567890/g", A64, A64 + "\n");
        Runs.done("s/z/y/;t;p", "a", "a\na\n|a||1|3");
        Runs.done("s/z/y/g;t;p", "\n", "\n\n|||1|3");
        Runs.done("s/a/b/;s/z/y/;t;p", "a", "b\n|b||1|3");
        Runs.done("s/./y/;t;p", "\n", "\n\n|||1|3");
        Runs.done("s/^b/y/g;t;p", "ab", "ab\nab\n|ab||1|3");
    }

    private static void originalText() {
        Check.sentence("Matches are always sought in the original T.");
        Feed.dueOutput("s/a/aa/g", "aba", "aabaa\n");
        Feed.dueOutput("s/ab/b/g", "aabb", "abb\n");
        Feed.dueOutput("s/a/ab/g", "ab", "abb\n");
        Feed.dueOutput("s/ab/a/g", "abb", "ab\n");
        Feed.dueOutput("s/^a//g", "aaa", "aa\n");
        Feed.dueOutput("s/a$//g", "aaa", "aa\n");
        Feed.dueOutput("s/b/aaa/g", "b", "aaa\n");
    }
}
