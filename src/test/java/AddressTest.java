/** Promise 8: addresses. */
public final class AddressTest {
    private static final String SIX = "a\nb\nc\nd\ne\nf\n";

    public static void main(String[] args) {
        singleAddresses();
        rangesByNumber();
        rangesByRegexAndLast();
        negatedRanges();
        rangesWithJoinedLines();
        rangesReachedTwiceOnALine();
        rangesPassedBy();
        statesOfTheirOwn();
        Check.finish();
    }

    private static void singleAddresses() {
        Feed.dueQuiet("1p", SIX, "a\n");
        Feed.dueQuiet("6p", SIX, "f\n");
        Feed.dueQuiet("7p", SIX, "");
        Feed.dueQuiet("003p", SIX, "c\n");
        Feed.dueQuiet("255p", SIX, "");
        Feed.dueQuiet("128p", "\n".repeat(127) + "x", "x\n");
        Feed.dueQuiet("$p", SIX, "f\n");
        Feed.dueQuiet("$p", "a\nb", "b\n");
        Feed.dueQuiet("$p", "a", "a\n");
        Feed.dueQuiet("/c/p", SIX, "c\n");
        Feed.dueQuiet("1!p", SIX, "b\nc\nd\ne\nf\n");
        Feed.dueQuiet("$!p", SIX, "a\nb\nc\nd\ne\n");
        Feed.dueQuiet("/[a-c]/!p", "a\nb", "a\nb\n");
        Feed.dueQuiet("s/a/z/;/a/p;/z/p", "a", "z\n");
    }

    private static void rangesByNumber() {
        Feed.dueQuiet("2,4p", SIX, "b\nc\nd\n");
        Feed.dueQuiet("2,2p", SIX, "b\n");
        Feed.dueQuiet("4,2p", SIX, "d\n");
        Feed.dueQuiet("1,6p", SIX, SIX);
        Feed.dueQuiet("5,9p", SIX, "e\nf\n");
        Feed.dueQuiet("8,9p", SIX, "");
        Feed.dueQuiet("2,$p", SIX, "b\nc\nd\ne\nf\n");
        Feed.dueQuiet("$,2p", SIX, "f\n");
        Feed.dueQuiet("$,$p", SIX, "f\n");
        Feed.dueQuiet("2,/d/p", SIX, "b\nc\nd\n");
        Feed.dueQuiet("2,/b/p", SIX, "b\nc\nd\ne\nf\n");
    }

    private static void rangesByRegexAndLast() {
        Feed.dueQuiet("/b/,/d/p", SIX, "b\nc\nd\n");
        Feed.dueQuiet("/x/,/y/p", "x1\nq\ny\nn\nx2\ny\nn\n", "x1\nq\ny\nx2\ny\n");
        Feed.dueQuiet("/x/,/x/p", "x\nq\nx\nn\nx\nr\n", "x\nq\nx\nx\nr\n");
        Feed.dueQuiet("/x/,/x/p", "x\nx\nx\n", "x\nx\nx\n");
        Feed.dueQuiet("/x/,3p", "x\nq\nx\nx\nq\nx\n", "x\nq\nx\nx\nx\n");
        Feed.dueQuiet("/x/,2p", "q\nq\nx\nq\nx\n", "x\nx\n");
        Feed.dueQuiet("/x/,$p", "a\nx\nb\nc", "x\nb\nc\n");
        Feed.dueQuiet("/b/,/q/p", SIX, "b\nc\nd\ne\nf\n");
        Feed.dueQuiet("/b/,/c/s/./[&]/;/]/p", SIX, "[b]\n[c]\n");
    }

    private static void negatedRanges() {
        Feed.dueQuiet("2,4!p", SIX, "a\ne\nf\n");
        Feed.dueQuiet("4,2!p", SIX, "a\nb\nc\ne\nf\n");
        Feed.dueQuiet("/b/,/d/!p", SIX, "a\ne\nf\n");
        Feed.dueQuiet("2,$!p", SIX, "a\n");
        Feed.dueOutput("2,3!d", SIX, "b\nc\n");
    }

    /** N moves the line number on inside a cycle, so a range may never see its end line. */
    private static void rangesWithJoinedLines() {
        Feed.dueQuiet("N;2,3p", SIX, "a\nb\nc\nd\n");
        Feed.dueQuiet("N;2,4p", SIX, "a\nb\nc\nd\n");
        Feed.dueQuiet("N;1,4p", SIX, "");
        Feed.dueQuiet("2,3p;N;N", SIX, "");
        Feed.dueQuiet("1,2p;N", SIX, "a\nc\n");
        Feed.dueQuiet("1,3p;N", SIX, "a\nc\n");
        Feed.dueQuiet("1,$p;N", SIX, "a\nc\ne\n");
        Feed.dueQuiet("1,2!p;N", SIX, "e\n");
        Feed.dueQuiet("$p;N;$p", "a\nb", "a\nb\n");
    }

    /** On its activation line a range stays active, whatever addr2 says, unless a number has been passed. */
    private static void rangesReachedTwiceOnALine() {
        again("/a/,/a/", "a\nq\na\nq", "a\n=a\nq\n=q\na\n=a\nq\n=q\n");
        again("/a/,/q/", "a\nq\nq", "a\n=a\nq\n");
        again("1,1", "a\nq", "a\n=a\n");
        again("1,2", "a\nq\nr", "a\n=a\nq\n");
        again("/q/,2", "a\nq\nr", "q\n=q\n");
        again("1,$", "a\nq", "a\n=a\nq\n");
        again("1,/q/", "a\nq\nq", "a\n=a\nq\n");
        again("$,$", "a", "a\n=a\n");
    }

    /** Reaches a print with the address twice on each line; the second time the line begins with '='. */
    private static void again(String address, String input, String want) {
        Feed.dueQuiet(":a;" + address + "p;/=/b;s/^/=/;ba", input, want);
    }

    /** A command that is not reached keeps its range state. */
    private static void rangesPassedBy() {
        Feed.dueQuiet("2d;1,2p", SIX, "a\nc\n");
        Feed.dueQuiet("2b;2,4p", SIX, "");
        Feed.dueQuiet("3d;2,3p", SIX, "b\nd\n");
        Feed.dueQuiet("4d;2,/d/p", SIX, "b\nc\ne\nf\n");
        Feed.dueQuiet("$d;2,$p", SIX, "b\nc\nd\ne\n");
    }

    private static void statesOfTheirOwn() {
        Feed.dueQuiet("1,2p;2,3p;/c/,/d/p", SIX, "a\nb\nb\nc\nc\nd\n");
        Feed.dueQuiet("1,3!p;2,5p", SIX, "b\nc\nd\nd\ne\ne\nf\n");
    }
}
