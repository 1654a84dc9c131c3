/** Promises 4 and 5. */
public final class InputTextTest {
    public static void main(String[] args) {
        onlyTextCharsAreTaken();
        theInputHoldsAtMost128();
        theRestIsUntouched();
        clearDropsTheInputAlone();
        Check.finish();
    }

    private static void onlyTextCharsAreTaken() {
        for (int c = -300; c <= 400; c++) {
            boolean taken = c == 10 || c >= 32 && c <= 126;
            Check.due("addInputChar " + c, new StreamEditorX(0, 16).addInputChar(c), taken ? 1 : -1);
        }
        int[] far = {Integer.MIN_VALUE, Integer.MAX_VALUE, 65536 + 'p', 256 + 'p'};
        for (int c : far) {
            Check.due("addInputChar " + c, new StreamEditorX(0, 16).addInputChar(c), StreamEditorX.REFUSED);
        }
    }

    private static void theInputHoldsAtMost128() {
        StreamEditorX x = new StreamEditorX(0, 16);
        x.compile();
        for (int n = 1; n <= 128; n++) {
            Check.due("input char " + n, x.addInputChar('\n'), n);
        }
        Check.due("input char 129", x.addInputChar('a'), StreamEditorX.REFUSED);
        Check.due("wrong input char 129", x.addInputChar(9), StreamEditorX.REFUSED);
        Check.due("run of the full input", x.run(), StreamEditorX.RUN_DONE);
        Check.due("lines of the full input", x.linesRead(), 128);
        Check.due("output of the full input", Feed.output(x), "\n".repeat(128));
        x.clearInput();
        Check.due("after clearInput", x.addInputChar('a'), 1);
    }

    private static void theRestIsUntouched() {
        StreamEditorX x = Feed.editor("H", "a\nb");
        x.compile();
        x.run();
        String before = Feed.results(x);
        Check.due("a wrong char", x.addInputChar(31), StreamEditorX.REFUSED);
        Check.due("a char", x.addInputChar('c'), 4);
        Check.due("table after a char", x.hasTable(), true);
        Check.due("results after a char", Feed.results(x), before);
        x.run();
        Check.due("the next run sees the char", Feed.results(x), "a\nbc\n|bc|\na\nbc|2|2");
        Check.due("the script is as before", x.addScriptChar(';'), 2);
    }

    private static void clearDropsTheInputAlone() {
        StreamEditorX x = Feed.editor("H", "a\nb");
        x.compile();
        x.run();
        String before = Feed.results(x);
        x.clearInput();
        Check.due("table after clearInput", x.hasTable(), true);
        Check.due("results after clearInput", Feed.results(x), before);
        Check.due("run after clearInput", x.run(), StreamEditorX.RUN_DONE);
        Check.due("results of that run", Feed.results(x), "|||0|0");
        Check.due("the script is as before", x.addScriptChar(';'), 2);
    }
}
