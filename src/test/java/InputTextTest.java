/** Promises 4 and 5, sentence by sentence. */
public final class InputTextTest {
    private static final String NAME = "addInputChar";
    private static final String RESULTS = "a\nb\n|b|\na\nb|2|2";

    public static void main(String[] args) {
        onlyTextCharsAreTaken();
        aFullInputRefuses();
        aRefusedCallChangesNothing();
        theCharIsAppended();
        theAnswerIsTheNewLength();
        theRestIsUntouched();
        clearMakesTheInputEmpty();
        clearChangesNothingElse();
        Check.finish();
    }

    /** An editor with a table, an input and the results of a run. */
    private static StreamEditorX usedEditor() {
        StreamEditorX x = Feed.editor("H", "a\nb");
        Feed.dueRun(x, "H", StreamEditorX.RUN_DONE, "a\nb\n");
        return x;
    }

    private static void onlyTextCharsAreTaken() {
        Check.sentence("if c is not 10 and not in 32..126, the answer is `REFUSED`;");
        TextCall.dueCodes(NAME, StreamEditorX::addInputChar);
    }

    private static void aFullInputRefuses() {
        Check.sentence("if the input already has 128 chars, the answer is `REFUSED`.");
        StreamEditorX x = Feed.editor("", "\n".repeat(127));
        Check.due("input char 128", x.addInputChar('a'), 128);
        TextCall.dueFull(NAME, x, StreamEditorX::addInputChar);
        Feed.dueRun(x, "nothing on the full input", StreamEditorX.RUN_DONE, "\n".repeat(127) + "a\n");
        Check.due("lines of the full input", x.linesRead(), 128);
        TextCall.dueFull(NAME, x, StreamEditorX::addInputChar);
        x.clearInput();
        Check.due("a char after clearInput", x.addInputChar('a'), 1);
    }

    private static void aRefusedCallChangesNothing() {
        Check.sentence("A refused call changes nothing.");
        StreamEditorX x = usedEditor();
        for (int c : TextCall.NO_TEXT_CHARS) {
            Check.due("a wrong char", x.addInputChar(c), StreamEditorX.REFUSED);
            dueUnchanged(x, "wrong char " + c, RESULTS);
        }
        Check.due("length after wrong chars", x.addInputChar('c'), 4);

        StreamEditorX full = Feed.editor("x", "\n".repeat(127) + "b");
        String results = "\n".repeat(128) + "||b|128|128";
        Feed.dueRun(full, "x", StreamEditorX.RUN_DONE, "\n".repeat(128));
        for (int c : new int[] {10, ' ', 'p', 126, 9, 127, -1}) {
            Check.due("a char too many", full.addInputChar(c), StreamEditorX.REFUSED);
            dueUnchanged(full, "char too many " + c, results);
        }
    }

    private static void dueUnchanged(StreamEditorX x, String after, String results) {
        Check.due("table after " + after, x.hasTable(), true);
        Check.due("results after " + after, Feed.results(x), results);
        Check.due("run after " + after, x.run(), StreamEditorX.RUN_DONE);
        Check.due("results of a run after " + after, Feed.results(x), results);
    }

    private static void theCharIsAppended() {
        Check.sentence("Otherwise c is appended to the input");
        for (char c = 32; c <= 126; c++) {
            Feed.dueOutput("", "a" + c, "a" + c + "\n");
        }
        Feed.dueOutput("", "a\nb", "a\nb\n");
        StreamEditorX x = usedEditor();
        x.addInputChar('c');
        x.run();
        Check.due("the next run sees the char", Feed.results(x), "a\nbc\n|bc|\na\nbc|2|2");
        x.addInputChar(10);
        x.run();
        Check.due("a newline behind it ends the line", Feed.results(x), "a\nbc\n|bc|\na\nbc|2|2");
        x.addInputChar(10);
        x.run();
        Check.due("a second newline makes one more", Feed.results(x), "a\nbc\n\n||\na\nbc\n|3|3");
    }

    private static void theAnswerIsTheNewLength() {
        Check.sentence("and the answer is the new input length (1..128).");
        StreamEditorX x = new StreamEditorX(0, 16);
        TextCall.dueLengths(NAME, x, StreamEditorX::addInputChar);
        Check.due("the input is not the script", x.addScriptChar('a'), 1);
    }

    private static void theRestIsUntouched() {
        Check.sentence("The script, the table and the run results are untouched.");
        for (int c : new int[] {10, 32, 'a', 126}) {
            StreamEditorX x = usedEditor();
            Check.due("char " + c, x.addInputChar(c), 4);
            Check.due("table after char " + c, x.hasTable(), true);
            Check.due("results after char " + c, Feed.results(x), RESULTS);
            Check.due("script after char " + c, x.compile(), 1);
            Check.due("length of the script after char " + c, x.addScriptChar(';'), 2);
        }
        StreamEditorX none = new StreamEditorX(0, 16);
        none.addInputChar('a');
        Check.due("no table comes from a char", none.hasTable(), false);
    }

    private static void clearMakesTheInputEmpty() {
        Check.sentence("`clearInput()` makes the input empty.");
        for (String input : new String[] {"", "a", "\n", "a\nb\n", "a".repeat(128)}) {
            StreamEditorX x = Feed.editor("p", input);
            x.compile();
            x.run();
            x.clearInput();
            Check.due("run after clearInput", x.run(), StreamEditorX.RUN_DONE);
            Check.due("results of that run", Feed.results(x), "|||0|0");
            x.clearInput();
            Check.due("length after clearInput", x.addInputChar('q'), 1);
            x.run();
            Check.due("the new input", Feed.results(x), "q\nq\n|q||1|1");
        }
    }

    private static void clearChangesNothingElse() {
        Check.sentence("Nothing else changes.");
        StreamEditorX x = usedEditor();
        x.clearInput();
        Check.due("table after clearInput", x.hasTable(), true);
        Check.due("results after clearInput", Feed.results(x), RESULTS);
        Check.due("script after clearInput", x.compile(), 1);
        Check.due("length of the script", x.addScriptChar(';'), 2);
        StreamEditorX none = Feed.editor("p", "a");
        none.clearInput();
        Check.due("no table comes from clearInput", none.hasTable(), false);
    }
}
