/** Promises 2 and 3, sentence by sentence. */
public final class ScriptTextTest {
    private static final String NAME = "addScriptChar";
    private static final String INPUT = "ab\ncd";
    private static final String RESULTS = "ab\nab\ncd\ncd\n|cd|cd|2|4";

    public static void main(String[] args) {
        onlyTextCharsAreTaken();
        aFullScriptRefuses();
        aRefusedCallChangesNothing();
        theCharIsAppended();
        theTableBecomesAbsent();
        theAnswerIsTheNewLength();
        inputAndResultsStay();
        clearMakesScriptAndTableGo();
        clearChangesNothingElse();
        Check.finish();
    }

    /** An editor with a table, an input and the results of a run. */
    private static StreamEditorX usedEditor(String script) {
        StreamEditorX x = Feed.editor(script, INPUT);
        Feed.dueRun(x, script, StreamEditorX.RUN_DONE, "ab\nab\ncd\ncd\n");
        return x;
    }

    private static void onlyTextCharsAreTaken() {
        Check.sentence("if c is not 10 and not in 32..126, the answer is `REFUSED`;");
        TextCall.dueCodes(NAME, StreamEditorX::addScriptChar);
    }

    private static void aFullScriptRefuses() {
        Check.sentence("if the script already has 128 chars, the answer is `REFUSED`.");
        StreamEditorX x = Feed.editor(";".repeat(127), "");
        Check.due("script char 128", x.addScriptChar(';'), 128);
        TextCall.dueFull(NAME, x, StreamEditorX::addScriptChar);
        Check.due("the full script", x.compile(), 0);
        TextCall.dueFull(NAME, x, StreamEditorX::addScriptChar);
        x.clearScript();
        Check.due("a char after clearScript", x.addScriptChar(';'), 1);
    }

    private static void aRefusedCallChangesNothing() {
        Check.sentence("A refused call changes nothing.");
        StreamEditorX x = usedEditor("h;p");
        for (int c : TextCall.NO_TEXT_CHARS) {
            Check.due("a wrong char", x.addScriptChar(c), StreamEditorX.REFUSED);
            dueUnchanged(x, "wrong char " + c);
        }
        Check.due("length after wrong chars", x.addScriptChar(';'), 4);
        Check.due("script after wrong chars", x.compile(), 2);

        StreamEditorX full = usedEditor(" ".repeat(125) + "h;p");
        for (int c : new int[] {10, ' ', 'p', '?', 126, 9, 127, -1}) {
            Check.due("a char too many", full.addScriptChar(c), StreamEditorX.REFUSED);
            dueUnchanged(full, "char too many " + c);
        }
        Check.due("script after chars too many", full.compile(), 2);

        StreamEditorX none = Feed.editor("h;?", INPUT);
        Check.due("a wrong char without a table", none.addScriptChar(9), StreamEditorX.REFUSED);
        Check.due("a table after a wrong char", none.hasTable(), false);
        Check.due("results after a wrong char", Feed.results(none), "|||0|0");
    }

    private static void dueUnchanged(StreamEditorX x, String after) {
        Check.due("table after " + after, x.hasTable(), true);
        Check.due("results after " + after, Feed.results(x), RESULTS);
        Check.due("run after " + after, x.run(), StreamEditorX.RUN_DONE);
        Check.due("results of a run after " + after, Feed.results(x), RESULTS);
    }

    private static void theCharIsAppended() {
        Check.sentence("Otherwise c is appended to the script,");
        for (char c = 32; c <= 126; c++) {
            String text = "/\\&".indexOf(c) < 0 ? "" + c : "\\" + c;
            Feed.dueOutput("s/x/" + text + "/", "x", c + "\n");
        }
        Feed.dueOutput("p\ns/x/y/", "x", "x\ny\n");
        StreamEditorX x = Feed.editor("s/a/b", "a");
        Check.due("the script without its last char", x.compile(), StreamEditorX.COMPILE_ERROR);
        x.addScriptChar('/');
        Feed.dueRun(x, "s/a/b/", StreamEditorX.RUN_DONE, "b\n");
    }

    private static void theTableBecomesAbsent() {
        Check.sentence("the table becomes absent,");
        for (int c : new int[] {' ', ';', 10, 'p', '~'}) {
            StreamEditorX x = usedEditor("h;p");
            x.addScriptChar(c);
            Check.due("table after char " + c, x.hasTable(), false);
            Check.due("run after char " + c, x.run(), StreamEditorX.RUN_NO_TABLE);
        }
        StreamEditorX empty = new StreamEditorX(0, 16);
        empty.compile();
        empty.addScriptChar(' ');
        Check.due("a table of no commands after a char", empty.hasTable(), false);
        StreamEditorX last = Feed.editor(" ".repeat(127), "");
        last.compile();
        last.addScriptChar(' ');
        Check.due("table after the last char", last.hasTable(), false);
    }

    private static void theAnswerIsTheNewLength() {
        Check.sentence("and the answer is the new script length (1..128).");
        StreamEditorX x = new StreamEditorX(0, 16);
        TextCall.dueLengths(NAME, x, StreamEditorX::addScriptChar);
        Check.due("the script is not the input", x.addInputChar('a'), 1);
    }

    private static void inputAndResultsStay() {
        Check.sentence("Input and run results are not changed.");
        StreamEditorX x = usedEditor("h;p");
        Check.due("the char behind", x.addScriptChar(' '), 4);
        Check.due("results after a char", Feed.results(x), RESULTS);
        x.compile();
        x.run();
        Check.due("results of the next run", Feed.results(x), RESULTS);
        Check.due("length of the input", x.addInputChar('e'), INPUT.length() + 1);
    }

    private static void clearMakesScriptAndTableGo() {
        Check.sentence("`clearScript()` makes the script empty and the table absent.");
        for (String script : new String[] {"", "p", "?", "h;p", " ".repeat(127) + "p"}) {
            StreamEditorX x = Feed.editor(script, INPUT);
            x.compile();
            x.clearScript();
            Check.due("table after clearScript", x.hasTable(), false);
            Check.due("run after clearScript", x.run(), StreamEditorX.RUN_NO_TABLE);
            x.clearScript();
            Check.due("table after clearScript twice", x.hasTable(), false);
            Check.due("compile after clearScript", x.compile(), 0);
            Check.due("length after clearScript", x.addScriptChar('p'), 1);
            Check.due("compile of the new script", x.compile(), 1);
        }
    }

    private static void clearChangesNothingElse() {
        Check.sentence("Nothing else changes.");
        StreamEditorX x = usedEditor("h;p");
        x.clearScript();
        Check.due("results after clearScript", Feed.results(x), RESULTS);
        x.run();
        Check.due("results after a run without table", Feed.results(x), RESULTS);
        x.compile();
        Check.due("results after compile", Feed.results(x), RESULTS);
        x.run();
        Check.due("input after clearScript", Feed.output(x), INPUT + "\n");
        Check.due("length of the input", x.addInputChar('e'), INPUT.length() + 1);
    }
}
