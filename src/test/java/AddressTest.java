/** Promise 8: addresses, sentence by sentence. */
public final class AddressTest {
    private static final String SIX = "a\nb\nc\nd\ne\nf\n";

    public static void main(String[] args) {
        numbers();
        lastLine();
        regexes();
        noAddress();
        singleAddress();
        rangeStates();
        rangeStarts();
        rangeByAPassedNumber();
        rangeNotStarted();
        rangeEnds();
        rangeOnItsActivationLine();
        rangeEndPassedByJoining();
        negation();
        negatedRangeStates();
        Check.finish();
    }

    private static void numbers() {
        Check.sentence("a number k holds iff k = c;");
        Feed.dueQuiet("1p", SIX, "a\n");
        Feed.dueQuiet("2p", SIX, "b\n");
        Feed.dueQuiet("6p", SIX, "f\n");
        Feed.dueQuiet("7p", SIX, "");
        Feed.dueQuiet("003p", SIX, "c\n");
        Feed.dueQuiet("255p", SIX, "");
        Feed.dueQuiet("128p", "\n".repeat(127) + "x", "x\n");
        Feed.dueQuiet("126p", "\n".repeat(125) + "x\ny", "x\n");
        Feed.dueQuiet("1p;N;1p;2p", "a\nb", "a\na\nb\n");
    }

    private static void lastLine() {
        Check.sentence("'$' holds iff line c is the last line;");
        Feed.dueQuiet("$p", SIX, "f\n");
        Feed.dueQuiet("$p", "a\nb", "b\n");
        Feed.dueQuiet("$p", "a", "a\n");
        Feed.dueQuiet("$p", "a\n", "a\n");
        Feed.dueQuiet("$p", "a\n\n", "\n");
        Feed.dueQuiet("$p", "\n", "\n");
        Feed.dueQuiet("$p;N;$p", "a\nb", "a\nb\n");
        Feed.dueQuiet("$p", "\n".repeat(127) + "x", "x\n");
        Feed.dueQuiet("$p", "\n".repeat(128), "\n");
    }

    private static void regexes() {
        Check.sentence("a regex holds iff it matches P.");
        Feed.dueQuiet("/c/p", SIX, "c\n");
        Feed.dueQuiet("s/a/z/;/a/p;/z/p", "a", "z\n");
        Feed.dueQuiet("/^$/p", "a\n\n", "\n");
        Feed.dueQuiet("N;/a.b/p", "a\nb", "a\nb\n");
        Feed.dueQuiet("x;/a/p", "a\nb", "a\n");
        Feed.dueQuiet("/z/p", SIX, "");
    }

    private static void noAddress() {
        Check.sentence("A command without address is selected.");
        Feed.dueQuiet("p", "a\nb\n\n", "a\nb\n\n");
        Feed.dueQuiet("2d;p", "a\nb\nc", "a\nc\n");
    }

    private static void singleAddress() {
        Check.sentence("A single address selects iff it holds.");
        Feed.dueQuiet("2p", SIX, "b\n");
        Feed.dueQuiet("/[abc]/p;/b/p", SIX, "b\n");
        Feed.dueQuiet("/x/p", "x\ny\nx\n", "x\nx\n");
        Feed.dueQuiet(":a;1p;s/a/b/;ta", "a\na", "a\nb\n");
    }

    private static void rangeStates() {
        Check.sentence("A range has a state, inactive at the start of each run, and an activation line a.");
        Feed.dueQuiet("1,2p;2,3p;/c/,/d/p", SIX, "a\nb\nb\nc\nc\nd\n");
        Feed.dueQuiet("1,3!p;2,5p", SIX, "b\nc\nd\nd\ne\ne\nf\n");
        Runs.done("1,2s/$/a/;2,3s/$/b/;3,4s/$/c/;4,5s/$/d/", "\n".repeat(5), "a\nab\nbc\ncd\nd\n|d||5|20");
        Feed.dueQuiet("1,2h;".repeat(15) + "2,3p", SIX, "b\nc\n");
        // A command that is not reached keeps its range state.
        Feed.dueQuiet("2d;1,2p", SIX, "a\nc\n");
        Feed.dueQuiet("2b;2,4p", SIX, "");
        Feed.dueQuiet("3d;2,3p", SIX, "b\nd\n");
        Feed.dueQuiet("4d;2,/d/p", SIX, "b\nc\ne\nf\n");
        Feed.dueQuiet("$d;2,$p", SIX, "b\nc\nd\ne\n");
        StreamEditorX x = Feed.editor(1, 16, "2,9p", "a\nb\nc");
        for (int n = 0; n < 3; n++) {
            Feed.dueRun(x, "2,9p", StreamEditorX.RUN_DONE, "b\nc\n");
            Check.due("run without compile", x.run(), StreamEditorX.RUN_DONE);
            Check.due("output without compile", Feed.output(x), "b\nc\n");
        }
    }

    private static void rangeStarts() {
        Check.sentence("If inactive: if addr1 holds, the range becomes active with a = c and selects,");
        Feed.dueQuiet("2,4p", SIX, "b\nc\nd\n");
        Feed.dueQuiet("1,6p", SIX, SIX);
        Feed.dueQuiet("5,9p", SIX, "e\nf\n");
        Feed.dueQuiet("6,255p", SIX, "f\n");
        Feed.dueQuiet("2,$p", SIX, "b\nc\nd\ne\nf\n");
        Feed.dueQuiet("/b/,/d/p", SIX, "b\nc\nd\n");
        Feed.dueQuiet("/b/,$p", SIX, "b\nc\nd\ne\nf\n");
        Feed.dueQuiet("/b/,4p", SIX, "b\nc\nd\n");
        Feed.dueQuiet("$,$p", SIX, "f\n");
        Feed.dueQuiet("$,/f/p", SIX, "f\n");
        Feed.dueQuiet("1,$p", "a", "a\n");
        Feed.dueQuiet("/b/,/c/s/./[&]/;/]/p", SIX, "[b]\n[c]\n");
    }

    private static void rangeByAPassedNumber() {
        Check.sentence("and then, if addr2 is a number k <= c, it becomes inactive again;");
        Feed.dueQuiet("2,2p", SIX, "b\n");
        Feed.dueQuiet("2,1p", SIX, "b\n");
        Feed.dueQuiet("4,2p", SIX, "d\n");
        Feed.dueQuiet("2,3p", SIX, "b\nc\n");
        Feed.dueQuiet("1,1p", SIX, "a\n");
        Feed.dueQuiet("$,2p", SIX, "f\n");
        Feed.dueQuiet("$,6p", SIX, "f\n");
        Feed.dueQuiet("/x/,2p", "q\nq\nx\nq\nx\n", "x\nx\n");
        Feed.dueQuiet("/x/,3p", "x\nq\nx\nx\nq\nx\n", "x\nq\nx\nx\nx\n");
        Feed.dueQuiet("/x/,3p", "q\nq\nx\nq\n", "x\n");
        Feed.dueQuiet("/x/,4p", "q\nq\nx\nq\nr\n", "x\nq\n");
        // It can start anew at once, on the same line.
        again("1,1", "a\nq", "a\n=a\n");
        again("/q/,2", "a\nq\nr", "q\n=q\n");
        again("/^q/,2", "a\nq\nr", "q\n");
        again("/^q/,3", "a\nq\nr\ns", "q\n=q\nr\n");
    }

    private static void rangeNotStarted() {
        Check.sentence("if addr1 does not hold, it does not select.");
        Feed.dueQuiet("8,9p", SIX, "");
        Feed.dueQuiet("/x/,/b/p", SIX, "");
        Feed.dueQuiet("3,/c/p", "a\nb", "");
        Feed.dueQuiet("/x/,2p", SIX, "");
        Feed.dueQuiet("2d;2,4p", SIX, "");
    }

    private static void rangeEnds() {
        Check.sentence("If active: it selects; then, if c > a and addr2 holds (for a number k here: iff k <= c), it becomes inactive.");
        Feed.dueQuiet("2,/d/p", SIX, "b\nc\nd\n");
        Feed.dueQuiet("2,/c/p", SIX, "b\nc\n");
        Feed.dueQuiet("2,/z/p", SIX, "b\nc\nd\ne\nf\n");
        Feed.dueQuiet("/b/,/q/p", SIX, "b\nc\nd\ne\nf\n");
        Feed.dueQuiet("/x/,/y/p", "x1\nq\ny\nn\nx2\ny\nn\n", "x1\nq\ny\nx2\ny\n");
        Feed.dueQuiet("/x/,$p", "a\nx\nb\nc", "x\nb\nc\n");
        Feed.dueQuiet("1,2p", "a\nb\na\nb", "a\nb\n");
        Feed.dueQuiet("/a/,2p", "a\nb\nc\na\nb", "a\nb\na\n");
        Feed.dueQuiet("1,127p", "\n".repeat(125) + "a\nb", "\n".repeat(125) + "a\nb\n");
        Feed.dueQuiet("1,126p", "\n".repeat(125) + "a\nb", "\n".repeat(125) + "a\n");
        Feed.dueQuiet("126,127p", "\n".repeat(125) + "a\nb", "a\nb\n");
        Feed.dueQuiet("128,255p", "\n".repeat(127) + "b", "b\n");
    }

    private static void rangeOnItsActivationLine() {
        Check.sentence("if c > a and addr2 holds [..] it becomes inactive.");
        Feed.dueQuiet("2,/b/p", SIX, "b\nc\nd\ne\nf\n");
        Feed.dueQuiet("/x/,/x/p", "x\nq\nx\nn\nx\nr\n", "x\nq\nx\nx\nr\n");
        Feed.dueQuiet("/x/,/x/p", "x\nx\nx\n", "x\nx\nx\n");
        again("/a/,/a/", "a\nq\na\nq", "a\n=a\nq\n=q\na\n=a\nq\n=q\n");
        again("/a/,/q/", "a\nq\nq", "a\n=a\nq\n");
        again("1,2", "a\nq\nr", "a\n=a\nq\n");
        again("1,3", "a\nq\nr\ns", "a\n=a\nq\n=q\nr\n");
        again("1,$", "a\nq", "a\n=a\nq\n");
        again("1,/q/", "a\nq\nq", "a\n=a\nq\n");
        again("1,/=/", "a\nq\nr", "a\n=a\nq\n=q\n");
        again("$,$", "a", "a\n=a\n");
        again("/^a/,$", "a", "a\n=a\n");
    }

    /** Reaches a print with the address twice on each line; the second time the line begins with '='. */
    private static void again(String address, String input, String want) {
        Feed.dueQuiet(":a;" + address + "p;/=/b;s/^/=/;ba", input, want);
    }

    /** N moves the line number on inside a cycle, so a range may never see its end line. */
    private static void rangeEndPassedByJoining() {
        Check.sentence("(for a number k here: iff k <= c)");
        Feed.dueQuiet("N;2,3p", SIX, "a\nb\nc\nd\n");
        Feed.dueQuiet("N;2,4p", SIX, "a\nb\nc\nd\n");
        Feed.dueQuiet("N;2,5p", SIX, "a\nb\nc\nd\ne\nf\n");
        Feed.dueQuiet("N;1,4p", SIX, "");
        Feed.dueQuiet("2,3p;N;N", SIX, "");
        Feed.dueQuiet("1,2p;N", SIX, "a\nc\n");
        Feed.dueQuiet("1,3p;N", SIX, "a\nc\n");
        Feed.dueQuiet("1,4p;N", SIX, "a\nc\ne\n");
        Feed.dueQuiet("1,$p;N", SIX, "a\nc\ne\n");
        Feed.dueQuiet("1,2!p;N", SIX, "e\n");
        Feed.dueQuiet("1,2p;N;1p", SIX, "a\nc\n");
    }

    private static void negation() {
        Check.sentence("A negated command is selected iff the above does not select;");
        Feed.dueQuiet("1!p", SIX, "b\nc\nd\ne\nf\n");
        Feed.dueQuiet("$!p", SIX, "a\nb\nc\nd\ne\n");
        Feed.dueQuiet("$!p", "a", "");
        Feed.dueQuiet("7!p", SIX, SIX);
        Feed.dueQuiet("/[a-c]/!p", "a\nb", "a\nb\n");
        Feed.dueQuiet("/a/!p", "a\nb\nca", "b\n");
        Feed.dueQuiet("2,4!p", SIX, "a\ne\nf\n");
        Feed.dueQuiet("2,$!p", SIX, "a\n");
        Feed.dueQuiet("8,9!p", SIX, SIX);
    }

    private static void negatedRangeStates() {
        Check.sentence("range states change in the same way.");
        Feed.dueQuiet("4,2!p", SIX, "a\nb\nc\ne\nf\n");
        Feed.dueQuiet("/b/,/d/!p", SIX, "a\ne\nf\n");
        Feed.dueQuiet("/b/,/b/!p", SIX, "a\n");
        Feed.dueOutput("2,3!d", SIX, "b\nc\n");
        Feed.dueQuiet("/x/,/x/!p", "q\nx\nr\nx\ns\nx\n", "q\ns\n");
        again("/a/,/q/!", "a\nq\nq", "=q\nq\n=q\n");
    }
}
