/** Promise 8: input lines, printing, cycles and the commands other than s; promise 12 with it. */
public final class RunTest {
    private static final String A60 = "a".repeat(60);
    private static final String A63 = "a".repeat(63);
    private static final String A64 = "a".repeat(64);

    public static void main(String[] args) {
        noTable();
        inputLines();
        longLines();
        printing();
        deleting();
        joining();
        holding();
        holdOverflow();
        branching();
        testing();
        steps();
        eachRunStartsAnew();
        Check.finish();
    }

    private static void dueResults(int quiet, int fuel, String script, String input, int answer, String want) {
        StreamEditorX x = Feed.editor(quiet, fuel, script, input);
        Check.due("compile of " + script + " is accepted", x.compile() >= 0, true);
        Check.due("run of " + script, x.run(), answer);
        Check.due("results of " + script, Feed.results(x), want);
    }

    private static void done(String script, String input, String want) {
        dueResults(Feed.LOUD, Feed.MUCH, script, input, StreamEditorX.RUN_DONE, want);
    }

    private static void doneQuiet(String script, String input, String want) {
        dueResults(Feed.QUIET, Feed.MUCH, script, input, StreamEditorX.RUN_DONE, want);
    }

    private static void overflow(String script, String input, String want) {
        dueResults(Feed.LOUD, Feed.MUCH, script, input, StreamEditorX.RUN_OVERFLOW, want);
    }

    private static void overflowQuiet(String script, String input, String want) {
        dueResults(Feed.QUIET, Feed.MUCH, script, input, StreamEditorX.RUN_OVERFLOW, want);
    }

    private static void noTable() {
        StreamEditorX x = Feed.editor("h", "a\nb");
        x.compile();
        x.run();
        x.clearScript();
        Check.due("run without table", x.run(), StreamEditorX.RUN_NO_TABLE);
        Check.due("results are kept", Feed.results(x), "a\nb\n|b|b|2|2");
    }

    private static void inputLines() {
        done("", "", "|||0|0");
        done("", "a", "a\n|a||1|0");
        done("", "a\n", "a\n|a||1|0");
        done("", "\n", "\n|||1|0");
        done("", "\n\n", "\n\n|||2|0");
        done("", "\na", "\na\n|a||2|0");
        done("", "a\n\nb", "a\n\nb\n|b||3|0");
        done("", "a\nb\n\n", "a\nb\n\n|||3|0");
        done("p", "", "|||0|0");
        done("$d", "a\nb\n", "a\n|||2|2");
        done("$d", "a\n\n", "a\n|||2|2");
        done("", "\n".repeat(128), "\n".repeat(128) + "|||128|0");
    }

    private static void longLines() {
        done("", A64, A64 + "\n|" + A64 + "||1|0");
        done("", A64 + "\n" + A63, A64 + "\n" + A63 + "\n|" + A63 + "||2|0");
        overflow("", A64 + "a", "|||0|0");
        overflow("", "b\n" + A64 + "a", "b\n|b||1|0");
        overflow("h;d", "b\n" + A64 + "a\nc", "||b|1|2");
        overflowQuiet("", "a".repeat(128), "|||0|0");
    }

    private static void printing() {
        done("p", "a\nb", "a\na\nb\nb\n|b||2|2");
        doneQuiet("p", "a\nb", "a\nb\n|b||2|2");
        doneQuiet("", "a\nb", "|b||2|0");
        done("p", "", "|||0|0");
        done("p", "\n", "\n\n|||1|1");
        String four = (A63 + "\n").repeat(4);
        doneQuiet("p;p;p;p", A63, four + "|" + A63 + "||1|4");
        overflow("p;p;p;p", A63, four + "|" + A63 + "||1|4");
        overflowQuiet("p;p;p;p;p;h", A63, four + "|" + A63 + "||1|5");
        doneQuiet("p;p;p;s/.*//", A64, (A64 + "\n").repeat(3) + "|||1|4");
        String three = (A64 + "\n").repeat(3);
        overflowQuiet("p;p;p;p", A64, three + "|" + A64 + "||1|4");
        // 195 + 61 chars fill the output to its last place.
        done("p;p;p;s/aaaa//", A64, three + A60 + "\n|" + A60 + "||1|4");
        overflow("p;p;p;s/aaa//", A64, three + "|" + "a" + A60 + "||1|4");
        overflowQuiet("p;p;p;p;s/.*//;p", A63, four + "|||1|6");
        overflow("p;p;p;p;d", A63 + "\n" + "b", four + "|b||2|6");
    }

    private static void deleting() {
        done("d", "a\nb", "|||2|2");
        done("d;p", "a\nb", "|||2|2");
        done("1d", "a\nb", "b\n|b||2|2");
        done("p;d", "a\nb", "a\nb\n|||2|4");
        done("h;d", "a\nb", "||b|2|4");
        done("$d", "a", "|||1|1");
    }

    private static void joining() {
        done("N", "a\nb", "a\nb\n|a\nb||2|1");
        done("N", "a", "a\n|a||1|1");
        doneQuiet("N", "a", "|a||1|1");
        doneQuiet("N;p", "a", "|a||1|1");
        done("N;p", "a", "a\n|a||1|1");
        done("N;N;N;p", "a\nb\nc", "a\nb\nc\n|a\nb\nc||3|3");
        done("N;s/\\n/-/", "a\nb\nc\nd\n", "a-b\nc-d\n|c-d||4|4");
        done("N;s/\\n/-/", "a\nb\nc", "a-b\nc\n|c||3|3");
        done("N", "\n\n", "\n\n|\n||2|1");
        done("2p;N;2p", "a\nb", "a\nb\na\nb\n|a\nb||2|3");
        done("$p;N;$p", "a\nb", "a\nb\na\nb\n|a\nb||2|3");
        done("N;N", A60 + "\nbc\n", A60 + "\nbc\n|" + A60 + "\nbc||2|2");
        done("N", A60 + "\nbcd", A60 + "\nbcd\n|" + A60 + "\nbcd||2|1");
        overflow("N", A60 + "\nbcde", "|" + A60 + "||1|1");
        done("N", A63 + "\n\n", A63 + "\n\n|" + A63 + "\n||2|1");
        overflow("N", A64 + "\n\n", "|" + A64 + "||1|1");
        overflow("N", "a\n" + A64, "|a||1|1");
        overflow("p;p;p;p;N", A63, (A63 + "\n").repeat(4) + "|" + A63 + "||1|5");
        doneQuiet("p;p;p;p;N", A63, (A63 + "\n").repeat(4) + "|" + A63 + "||1|5");
        done("N;d", "a\nb\nc", "c\n|c||3|3");
    }

    private static void holding() {
        done("h", "a\nbc", "a\nbc\n|bc|bc|2|2");
        done("g", "a\nb", "\n\n|||2|2");
        done("1h;2g", "abc\nd", "abc\nabc\n|abc|abc|2|4");
        done("1h;2h", "abc\nd", "abc\nd\n|d|d|2|4");
        done("H", "a\nb", "a\nb\n|b|\na\nb|2|2");
        done("G", "a\nb", "a\n\nb\n\n|b\n||2|2");
        done("h;G", "ab", "ab\nab\n|ab\nab|ab|1|2");
        done("h;H", "ab", "ab\n|ab|ab\nab|1|2");
        done("x", "a\nbcd\ne", "\na\nbcd\n|bcd|e|3|3");
        done("x;x", "ab", "ab\n|ab||1|2");
        done("1!G;h;$!d", "a\nb\nc", "c\nb\na\n|c\nb\na|c\nb\na|3|9");
        done("x;G", "ab\nc", "\nab\nab\nc\n|ab\nc|c|2|4");
    }

    private static void holdOverflow() {
        String a31 = "a".repeat(31);
        String a32 = "a".repeat(32);
        doneQuiet("h;H", a31, "|" + a31 + "|" + a31 + "\n" + a31 + "|1|2");
        doneQuiet("h;G", a31, "|" + a31 + "\n" + a31 + "|" + a31 + "|1|2");
        overflowQuiet("h;H", a32, "|" + a32 + "|" + a32 + "|1|2");
        overflowQuiet("h;G", a32, "|" + a32 + "|" + a32 + "|1|2");
        doneQuiet("H", A63, "|" + A63 + "|\n" + A63 + "|1|1");
        overflowQuiet("H", A64, "|" + A64 + "||1|1");
        doneQuiet("G", A63, "|" + A63 + "\n||1|1");
        overflowQuiet("G", A64, "|" + A64 + "||1|1");
        overflowQuiet("h;s/.*//;H", A64, "||" + A64 + "|1|3");
        doneQuiet("h;s/.*//;H", A63, "||" + A63 + "\n|1|3");
        overflowQuiet("h;s/.*//;G", A64, "||" + A64 + "|1|3");
        doneQuiet("h;s/.*//;G", A63, "|\n" + A63 + "|" + A63 + "|1|3");
        doneQuiet("h;x;g;x", A64, "|" + A64 + "|" + A64 + "|1|4");
    }

    private static void branching() {
        done("b;p", "a", "a\n|a||1|1");
        done("bx;p;:x", "a", "a\n|a||1|2");
        done("bx;p;:x;p", "a", "a\na\n|a||1|3");
        done("1bx;p;:x", "a\nb", "a\nb\nb\n|b||2|5");
        done("1!b;p", "a\nb", "a\na\nb\n|b||2|3");
        done(":a;N;ba", "a\nb\nc", "a\nb\nc\n|a\nb\nc||3|8");
        done(":a;$!N;$!ba;s/\\n/,/g", "a\nb\nc", "a,b,c\n|a,b,c||3|7");
        doneQuiet("bab;:a;p;b;:ab;x;ba", "q", "\n||q|1|7");
    }

    private static void testing() {
        done("t;p", "a", "a\na\n|a||1|2");
        done("s/a/b/;t;p", "a\nc", "b\nc\nc\n|c||2|5");
        done("s/a/a/;t;p", "a", "a\n|a||1|2");
        done(":l;s/a/b/;tl", "aaa", "bbb\n|bbb||1|12");
        done("s/a/b/;s/x/y/;t;p", "a", "b\n|b||1|3");
        done("s/a/b/;tx;:x;t;p", "a", "b\nb\n|b||1|5");
        done("1s/a/b/;2t;p", "a\na", "b\nb\na\na\n|a||2|6");
        done("1s/a/b/;N;t;p", "a\na", "b\na\n|b\na||2|3");
        done("1s/a/b/;1d;t;p", "a\na", "a\na\n|a||2|6");
        done("s/a/b/;1!t;t;p", "a", "b\n|b||1|3");
    }

    private static void steps() {
        dueResults(0, 16, ":a;ba", "x", StreamEditorX.RUN_OUT_OF_STEPS, "|x||1|16");
        dueResults(0, 16, "p;p;p;p;p;p;p;p", "a\nb", StreamEditorX.RUN_DONE, "a\n".repeat(9) + "b\n".repeat(9) + "|b||2|16");
        dueResults(0, 17, "h;h;h;h;h;h", "a\nb\nc", StreamEditorX.RUN_OUT_OF_STEPS, "a\nb\n|c|c|3|17");
        dueResults(0, 18, "h;h;h;h;h;h", "a\nb\nc", StreamEditorX.RUN_DONE, "a\nb\nc\n|c|c|3|18");
        dueResults(0, 16, "9p;9p;9p;9p", "a\nb\nc\nd\ne", StreamEditorX.RUN_OUT_OF_STEPS, "a\nb\nc\nd\n|e||5|16");
        dueResults(0, 16, "9p;9p;9p;9p", "a\nb\nc\nd", StreamEditorX.RUN_DONE, "a\nb\nc\nd\n|d||4|16");
        dueResults(0, 16, "", "a\n".repeat(20), StreamEditorX.RUN_DONE, "a\n".repeat(20) + "|a||20|0");
        dueResults(0, 2048, ":a;s/b/b/;ta", "b", StreamEditorX.RUN_OUT_OF_STEPS, "|b||1|2048");
        dueResults(0, 16, "d", "a\n".repeat(17), StreamEditorX.RUN_OUT_OF_STEPS, "|a||17|16");
        dueResults(0, 16, ":a\n:b\n:c", "a\n".repeat(6), StreamEditorX.RUN_OUT_OF_STEPS, "a\n".repeat(5) + "|a||6|16");
    }

    private static void eachRunStartsAnew() {
        StreamEditorX x = Feed.editor("H;2,3p", "a\nb\nc");
        x.compile();
        for (int n = 0; n < 3; n++) {
            Check.due("run " + n, x.run(), StreamEditorX.RUN_DONE);
            Check.due("results of run " + n, Feed.results(x), "a\nb\nb\nc\nc\n|c|\na\nb\nc|3|6");
            Check.due("table after run " + n, x.hasTable(), true);
        }
        StreamEditorX y = Feed.editor(1, 16, "1,9p;:a;/c/ba", "a\nb\nc");
        y.compile();
        for (int n = 0; n < 3; n++) {
            Check.due("cut run " + n, y.run(), StreamEditorX.RUN_OUT_OF_STEPS);
            Check.due("results of cut run " + n, Feed.results(y), "a\nb\nc\n|c||3|16");
        }
        StreamEditorX open = Feed.editor(1, 16, "2,9p", "a\nb\nc");
        open.compile();
        for (int n = 0; n < 3; n++) {
            Feed.dueRun(open, "2,9p", StreamEditorX.RUN_DONE, "b\nc\n");
            Check.due("run without compile", open.run(), StreamEditorX.RUN_DONE);
            Check.due("output without compile", Feed.output(open), "b\nc\n");
        }
        y.clearInput();
        Check.due("run without lines", y.run(), StreamEditorX.RUN_DONE);
        Check.due("results without lines", Feed.results(y), "|||0|0");
        StreamEditorX z = Feed.editor(0, 16, "s/a/b/;:x;ta;bx;:a", "a");
        z.compile();
        z.run();
        z.clearScript();
        Feed.script(z, "t;s/a/c/");
        z.compile();
        z.run();
        Check.due("the t flag is false at the start", Feed.output(z), "c\n");
    }
}
