/** Promise 1. */
public final class ConstructionTest {
    public static void main(String[] args) {
        quietIsClamped();
        fuelIsClamped();
        freshObjectIsEmpty();
        bothStayFixed();
        Check.finish();
    }

    private static void quietIsClamped() {
        int[] given = {Integer.MIN_VALUE, -1, 0, 1, 2, Integer.MAX_VALUE};
        String[] want = {"a\n", "a\n", "a\n", "", "", ""};
        for (int n = 0; n < given.length; n++) {
            StreamEditorX x = Feed.editor(given[n], 100, "", "a");
            x.compile();
            x.run();
            Check.due("output with quiet " + given[n], Feed.output(x), want[n]);
        }
    }

    private static void fuelIsClamped() {
        int[] given = {Integer.MIN_VALUE, -1, 0, 15, 16, 17, 1000, 2047, 2048, 2049, Integer.MAX_VALUE};
        int[] want = {16, 16, 16, 16, 16, 17, 1000, 2047, 2048, 2048, 2048};
        for (int n = 0; n < given.length; n++) {
            StreamEditorX x = Feed.editor(0, given[n], ":a;ba", "x");
            x.compile();
            Check.due("run with fuel " + given[n], x.run(), StreamEditorX.RUN_OUT_OF_STEPS);
            Check.due("steps with fuel " + given[n], x.stepsUsed(), want[n]);
        }
    }

    private static void freshObjectIsEmpty() {
        StreamEditorX x = new StreamEditorX(0, 16);
        Check.due("fresh hasTable", x.hasTable(), false);
        Check.due("fresh results", Feed.results(x), "|||0|0");
        Check.due("fresh run", x.run(), StreamEditorX.RUN_NO_TABLE);
        Check.due("fresh script is empty", x.compile(), 0);
        Check.due("fresh input is empty", x.run(), StreamEditorX.RUN_DONE);
        Check.due("fresh input has no line", x.linesRead(), 0);
        Check.due("first script char", x.addScriptChar('p'), 1);
        Check.due("first input char", x.addInputChar('p'), 1);
    }

    private static void bothStayFixed() {
        StreamEditorX x = Feed.editor(1, 20, ":a;ba", "x");
        for (int n = 0; n < 3; n++) {
            x.compile();
            x.run();
            Check.due("steps of run " + n, x.stepsUsed(), 20);
            x.clearScript();
            Feed.script(x, "s/x/y/");
            x.compile();
            x.run();
            Check.due("quiet output of run " + n, Feed.output(x), "");
            x.clearScript();
            Feed.script(x, ":a;ba");
        }
    }
}
