/** Promise 8: what a run leaves, input lines, printing and fuel, sentence by sentence. */
public final class RunTest {
    private static final String A60 = Runs.A60;
    private static final String A63 = Runs.A63;
    private static final String A64 = Runs.A64;
    private static final String A65 = Runs.A65;
    private static final String THREE = (A64 + "\n").repeat(3);
    private static final String FOUR = (A63 + "\n").repeat(4);

    public static void main(String[] args) {
        noTable();
        resultsAreReplaced();
        stateIsKeptAtTheEnd();
        stateIsKeptOnOverflow();
        stateIsKeptOutOfSteps();
        textsAndTableStay();
        inputLines();
        emptyInput();
        lineNumbers();
        printing();
        outputOverflow();
        startOfARun();
        outOfSteps();
        stepsAreCounted();
        Check.finish();
    }

    private static void noTable() {
        Check.sentence("If the table is absent, `run()` answers `RUN_NO_TABLE` and changes nothing.");
        StreamEditorX fresh = Feed.editor("p", "a");
        Check.due("run before compile", fresh.run(), StreamEditorX.RUN_NO_TABLE);
        Check.due("results before compile", Feed.results(fresh), "|||0|0");
        Check.due("table before compile", fresh.hasTable(), false);
        Feed.dueRun(fresh, "p after a run without table", StreamEditorX.RUN_DONE, "a\na\n");

        StreamEditorX x = Feed.editor("h", "a\nb");
        Feed.dueRun(x, "h", StreamEditorX.RUN_DONE, "a\nb\n");
        x.addScriptChar(';');
        dueNoTable(x, "a char");
        x.addScriptChar('?');
        x.compile();
        dueNoTable(x, "a wrong script");
        Check.due("length of the script", x.addScriptChar(';'), 4);
        x.clearScript();
        dueNoTable(x, "clearScript");
        Check.due("length of the input", x.addInputChar('c'), 4);
        dueNoTable(x, "an input char");
        x.clearInput();
        dueNoTable(x, "clearInput");
    }

    private static void dueNoTable(StreamEditorX x, String after) {
        for (int n = 0; n < 2; n++) {
            Check.due("run after " + after, x.run(), StreamEditorX.RUN_NO_TABLE);
            Check.due("results after " + after, Feed.results(x), "a\nb\n|b|b|2|2");
            Check.due("table after " + after, x.hasTable(), false);
        }
    }

    private static void resultsAreReplaced() {
        Check.sentence("replacing output, pattern space, hold space, linesRead and stepsUsed.");
        StreamEditorX x = Feed.editor("h;p", "abcdef\nghi");
        String[] inputs = {"abcdef\nghi", "j", "", "kl\nm\nn", "\n", A65, "o"};
        String[] want = {"abcdef\nabcdef\nghi\nghi\n|ghi|ghi|2|4", "j\nj\n|j|j|1|2", "|||0|0", "kl\nkl\nm\nm\nn\nn\n|n|n|3|6",
            "\n\n|||1|2", "|||0|0", "o\no\n|o|o|1|2"};
        x.compile();
        for (int n = 0; n < inputs.length; n++) {
            x.clearInput();
            Feed.input(x, inputs[n]);
            x.run();
            Check.due("results of run " + n, Feed.results(x), want[n]);
        }
    }

    private static void stateIsKeptAtTheEnd() {
        Check.sentence("When a run stops or ends, every part of the state keeps the value it had at that moment.");
        Runs.done("h", "a\nb", "a\nb\n|b|b|2|2");
        Runs.done("h;d", "a\nb", "||b|2|4");
        Runs.done("x", "a\nb", "\na\n|a|b|2|2");
        Runs.done("h;N", "a\nb\nc", "a\nb\nc\n|c|c|3|4");
        Runs.doneQuiet("h;N;p", "a\nb\nc", "a\nb\n|c|c|3|5");
        Runs.done("H;s/./-/g", "a\nb", "-\n-\n|-|\na\nb|2|4");
    }

    private static void stateIsKeptOnOverflow() {
        Check.sentence("When a run stops [..] every part of the state keeps the value it had at that moment.");
        Runs.overflow("h", "b\n" + A65, "b\n|b|b|1|1");
        Runs.overflow("h;d", "b\n" + A65, "||b|1|2");
        Runs.overflow("h;s/b/c/;s/c/" + A65 + "/;p", "a\nb", "a\na\n|c|b|2|7");
        Runs.overflow("h;G;G;G", "b".repeat(21), "|" + "b".repeat(21) + "\n" + "b".repeat(21) + "|" + "b".repeat(21) + "|1|3");
        Runs.overflow("H;H;H;H", "b".repeat(21), "|" + "b".repeat(21) + "|" + ("\n" + "b".repeat(21)).repeat(2) + "|1|3");
        Runs.overflow("h;s/a/b/;N;p", A63 + "\nc", "|b" + "a".repeat(62) + "|" + A63 + "|1|3");
        Runs.overflow("h;p;p;p;p;x", A64, THREE + "|" + A64 + "|" + A64 + "|1|5");
        Runs.overflow("h;p;p;p;s/a/b/", A64, THREE + "|b" + A63 + "|" + A64 + "|1|5");
        Runs.overflow("h;p;p;p;N", A64, THREE + "|" + A64 + "|" + A64 + "|1|5");
    }

    private static void stateIsKeptOutOfSteps() {
        Check.sentence("When a run stops [..] every part of the state keeps the value it had at that moment.");
        Runs.outOfSteps(16, "p;h;:a;s/$/b/;ba", "x", "x\n|xbbbbb|x|1|16");
        Runs.outOfSteps(17, "p;h;:a;s/$/b/;ba", "x", "x\n|xbbbbb|x|1|17");
        Runs.outOfSteps(18, "p;h;:a;s/$/b/;ba", "x", "x\n|xbbbbb|x|1|18");
        Runs.outOfSteps(19, "p;h;:a;s/$/b/;ba", "x", "x\n|xbbbbbb|x|1|19");
        Runs.outOfSteps(17, "h;h;h;h;h;h", "a\nb\nc", "a\nb\n|c|c|3|17");
        Runs.outOfSteps(18, "h;h;h;h;h;h", "a\nb\nc\nd", "a\nb\nc\n|d|c|4|18");
        Runs.outOfSteps(16, "h;d", "a\n".repeat(8) + "b", "|b|a|9|16");
    }

    private static void textsAndTableStay() {
        Check.sentence("Script, input and table are never changed by a run.");
        dueSameAgain(0, 2048, "H;2,3p", "a\nb\nc", StreamEditorX.RUN_DONE, "a\nb\nb\nc\nc\n|c|\na\nb\nc|3|6");
        dueSameAgain(1, 16, "1,9p;:a;/c/ba", "a\nb\nc", StreamEditorX.RUN_OUT_OF_STEPS, "a\nb\nc\n|c||3|16");
        dueSameAgain(0, 16, "s/a/bb/g", "a\n" + A60, StreamEditorX.RUN_OVERFLOW, "bb\n|" + A60 + "||2|2");
        dueSameAgain(0, 16, "N;s/a*\\n/x/", "a\nb\nc", StreamEditorX.RUN_DONE, "xb\nc\n|c||3|3");
        dueSameAgain(0, 16, "", "", StreamEditorX.RUN_DONE, "|||0|0");
    }

    private static void dueSameAgain(int quiet, int fuel, String script, String input, int answer, String want) {
        StreamEditorX x = Feed.editor(quiet, fuel, script, input);
        int commands = x.compile();
        for (int n = 0; n < 3; n++) {
            Check.due("run " + n + " of " + script, x.run(), answer);
            Check.due("results of run " + n + " of " + script, Feed.results(x), want);
            Check.due("table after run " + n + " of " + script, x.hasTable(), true);
        }
        Check.due("compile after runs of " + script, x.compile(), commands);
        Check.due("length of the script after runs of " + script, x.addScriptChar(' '), script.length() + 1);
        Check.due("length of the input after runs of " + script, x.addInputChar(' '), input.length() + 1);
    }

    private static void inputLines() {
        Check.sentence("the chars before each char 10 form a line (the 10 not included); "
                + "the chars after the last 10, if any, form one more line.");
        Runs.done("", "a", "a\n|a||1|0");
        Runs.done("", "a\n", "a\n|a||1|0");
        Runs.done("", "\n", "\n|||1|0");
        Runs.done("", "\n\n", "\n\n|||2|0");
        Runs.done("", "\na", "\na\n|a||2|0");
        Runs.done("", "a\nb", "a\nb\n|b||2|0");
        Runs.done("", "a\n\nb", "a\n\nb\n|b||3|0");
        Runs.done("", "a\n\n", "a\n\n|||2|0");
        Runs.done("", "a\nb\n\n", "a\nb\n\n|||3|0");
        Runs.done("", " \n ", " \n \n| ||2|0");
        Runs.done("", "\n".repeat(128), "\n".repeat(128) + "|||128|0");
        Runs.done("", "\n".repeat(127) + "a", "\n".repeat(127) + "a\n|a||128|0");
        Runs.done("", A63 + "\n" + A64, A63 + "\n" + A64 + "\n|" + A64 + "||2|0");
        Runs.done("", A63 + "\n" + A63 + "\n", A63 + "\n" + A63 + "\n|" + A63 + "||2|0");
    }

    private static void emptyInput() {
        Check.sentence("An empty input has 0 lines.");
        Runs.done("", "", "|||0|0");
        Runs.done("p", "", "|||0|0");
        Runs.doneQuiet("p", "", "|||0|0");
        Runs.done("$p;1p;N;G;:a;ba", "", "|||0|0");
    }

    private static void lineNumbers() {
        Check.sentence("Lines are numbered 1, 2, ..; the current line number c is linesRead; "
                + "the last line is the one whose number is the count of lines.");
        Runs.doneQuiet("1p", "a\nb", "a\n|b||2|2");
        Runs.doneQuiet("2p", "a\nb", "b\n|b||2|2");
        Runs.doneQuiet("3p", "a\nb", "|b||2|2");
        Runs.doneQuiet("128p", "\n".repeat(127) + "x", "x\n|x||128|128");
        Runs.doneQuiet("129p", "\n".repeat(127) + "x", "|x||128|128");
        Runs.done("$d", "a", "|||1|1");
        Runs.done("$d", "a\nb\n", "a\n|||2|2");
        Runs.done("$d", "a\nb", "a\n|||2|2");
        Runs.done("$d", "a\n\n", "a\n|||2|2");
        Runs.done("2p;N;2p", "a\nb", "a\nb\na\nb\n|a\nb||2|3");
        Runs.done("$p;N;$p", "a\nb", "a\nb\na\nb\n|a\nb||2|3");
        Runs.doneQuiet("N;N;3p", "a\nb\nc", "a\nb\nc\n|a\nb\nc||3|3");
    }

    private static void printing() {
        Check.sentence("Printing the pattern space P appends the chars of P and then one 10 to the output;");
        Runs.done("p", "a\nb", "a\na\nb\nb\n|b||2|2");
        Runs.doneQuiet("p", "a\nb", "a\nb\n|b||2|2");
        Runs.doneQuiet("", "a\nb", "|b||2|0");
        Runs.done("p", "\n", "\n\n|||1|1");
        Runs.doneQuiet("N;p", "a\nb", "a\nb\n|a\nb||2|2");
        Runs.doneQuiet("G;p", "a", "a\n\n|a\n||1|2");
        Runs.done("", A64, A64 + "\n|" + A64 + "||1|0");
    }

    private static void outputOverflow() {
        Check.sentence("if that would make the output longer than 256, nothing is appended and the run stops with `RUN_OVERFLOW`.");
        // By p: 4 times 64 chars fill the output to its last place.
        Runs.doneQuiet("p;p;p;p", A63, FOUR + "|" + A63 + "||1|4");
        Runs.overflowQuiet("p;p;p;p;p;h", A63, FOUR + "|" + A63 + "||1|5");
        Runs.overflowQuiet("p;p;p;p;s/.*//;p;h", A63, FOUR + "|||1|6");
        Runs.overflowQuiet("p;p;p;p", A64, THREE + "|" + A64 + "||1|4");
        Runs.doneQuiet("p;p;p;s/aaaa//;p", A64, THREE + A60 + "\n|" + A60 + "||1|5");
        Runs.overflowQuiet("p;p;p;s/aaa//;p", A64, THREE + "|a" + A60 + "||1|5");
        // An empty pattern space still takes one place.
        Runs.doneQuiet("p;p;p;s/aaaaa//;p;s/.*//;p", A64, THREE + "a".repeat(59) + "\n\n|||1|7");
        Runs.overflowQuiet("p;p;p;s/aaaa//;p;s/.*//;p", A64, THREE + A60 + "\n|||1|7");
        // By automatic printing.
        Runs.done("p;p;p;s/aaaa//", A64, THREE + A60 + "\n|" + A60 + "||1|4");
        Runs.overflow("p;p;p;s/aaa//", A64, THREE + "|a" + A60 + "||1|4");
        Runs.overflow("p;p;p;p", A63, FOUR + "|" + A63 + "||1|4");
        Runs.overflow("p;p;p;p;d", A63 + "\nb", FOUR + "|b||2|6");
        Runs.overflow("1p;1p;1p", A63 + "\n\n", FOUR + "|||2|6");
        // By an N without a next line.
        Runs.done("p;p;p;s/aaaa//;N", A64, THREE + A60 + "\n|" + A60 + "||1|5");
        Runs.overflow("p;p;p;s/aaa//;N", A64, THREE + "|a" + A60 + "||1|5");
        Runs.doneQuiet("p;p;p;p;N", A63, FOUR + "|" + A63 + "||1|5");
    }

    private static void startOfARun() {
        Check.sentence("First output, pattern and hold spaces become empty, all range states inactive, "
                + "linesRead = stepsUsed = 0, the t flag false.");
        Runs.doneQuiet("x", "a", "||a|1|1");
        StreamEditorX x = Feed.editor(1, 16, "x;G;p", "a\nb");
        x.compile();
        for (int n = 0; n < 3; n++) {
            Check.due("run " + n, x.run(), StreamEditorX.RUN_DONE);
            Check.due("results of run " + n, Feed.results(x), "\na\na\nb\n|a\nb|b|2|6");
        }
        dueSameAgain(1, 16, "2,9p", "a\nb\nc", StreamEditorX.RUN_DONE, "b\nc\n|c||3|3");
        dueSameAgain(1, 16, "2,9p;:a;/c/ba", "a\nb\nc", StreamEditorX.RUN_OUT_OF_STEPS, "b\nc\n|c||3|16");
        dueSameAgain(1, 16, "2,9p", "a\nb\n" + A65, StreamEditorX.RUN_OVERFLOW, "b\n|b||2|2");
        dueSameAgain(1, 32, "h;".repeat(15) + "2,9p", "a\nb", StreamEditorX.RUN_DONE, "b\n|b|b|2|32");
        x.clearInput();
        Check.due("run without lines", x.run(), StreamEditorX.RUN_DONE);
        Check.due("results without lines", Feed.results(x), "|||0|0");
        StreamEditorX flag = Feed.editor(0, 16, "s/a/b/;:x;ta;bx;:a", "a");
        flag.compile();
        flag.run();
        flag.clearScript();
        Feed.script(flag, "t;s/a/c/");
        Feed.dueRun(flag, "t;s/a/c/", StreamEditorX.RUN_DONE, "c\n");
    }

    private static void outOfSteps() {
        Check.sentence("if stepsUsed = fuel the run stops with `RUN_OUT_OF_STEPS`;");
        for (int fuel : new int[] {16, 17, 18, 100, 2047, 2048}) {
            Runs.outOfSteps(fuel, ":a;ba", "x", "|x||1|" + fuel);
        }
        Runs.doneWith(16, "h;".repeat(16), "a", "a\n|a|a|1|16");
        Runs.doneWith(16, "p;p;p;p;p;p;p;p", "a\nb", "a\n".repeat(9) + "b\n".repeat(9) + "|b||2|16");
        Runs.doneWith(18, "h;h;h;h;h;h", "a\nb\nc", "a\nb\nc\n|c|c|3|18");
        Runs.outOfSteps(17, "h;h;h;h;h;h", "a\nb\nc", "a\nb\n|c|c|3|17");
        // The next line is read before the fuel is looked at.
        Runs.outOfSteps(16, "h;h;h;h", "a\nb\nc\nd\ne", "a\nb\nc\nd\n|e|d|5|16");
        Runs.due(0, 16, "h;h;h;h", "a\nb\nc\nd\n" + A65, StreamEditorX.RUN_OVERFLOW, "a\nb\nc\nd\n|d|d|4|16");
        Runs.doneWith(16, "h;h;h;h", "a\nb\nc\nd", "a\nb\nc\nd\n|d|d|4|16");
        Runs.doneWith(16, "d", "a\n".repeat(16), "|||16|16");
        Runs.outOfSteps(16, "d", "a\n".repeat(17), "|a||17|16");
        // Automatic printing and an N that ends the run need no fuel beyond their command.
        Runs.doneWith(16, "h;".repeat(13) + "p;p;p", A63, FOUR + "|" + A63 + "|" + A63 + "|1|16");
        Runs.due(0, 16, "h;".repeat(13) + "p;p;p", A64, StreamEditorX.RUN_OVERFLOW, THREE + "|" + A64 + "|" + A64 + "|1|16");
        Runs.doneWith(16, "h;".repeat(15) + "N", "a", "a\n|a|a|1|16");
        // No commands, no fuel.
        Runs.doneWith(16, "", "a\n".repeat(20), "a\n".repeat(20) + "|a||20|0");
    }

    private static void stepsAreCounted() {
        Check.sentence("else stepsUsed grows by 1 and the address part of command k is evaluated");
        Runs.outOfSteps(16, "9p;9p;9p;9p", "a\nb\nc\nd\ne", "a\nb\nc\nd\n|e||5|16");
        Runs.doneWith(16, "9p;9p;9p;9p", "a\nb\nc\nd", "a\nb\nc\nd\n|d||4|16");
        Runs.outOfSteps(16, ":a\n:b\n:c", "a\n".repeat(6), "a\n".repeat(5) + "|a||6|16");
        Runs.outOfSteps(2048, ":a;s/b/b/;ta", "b", "|b||1|2048");
        Runs.done("1,2!p;$!p;/b/p;t", "a\nb", "a\na\nb\nb\n|b||2|8");
        Runs.done("b;p;p", "a", "a\n|a||1|1");
    }
}
