/** Promise 1, sentence by sentence. */
public final class ConstructionTest {
    private static final int LEAST = Integer.MIN_VALUE;
    private static final int GREATEST = Integer.MAX_VALUE;
    private static final String ENDLESS = ":a;ba";

    public static void main(String[] args) {
        everyPairIsAccepted();
        quietIsClamped();
        quietTurnsPrintingOff();
        fuelIsClamped();
        fuelIsTheMostThatIsReached();
        bothStayFixed();
        freshObjectIsEmpty();
        Check.finish();
    }

    private static void everyPairIsAccepted() {
        Check.sentence("`StreamEditorX(quiet, fuel)` accepts every int pair.");
        int[] ints = {LEAST, LEAST + 1, -2048, -16, -1, 0, 1, 2, 15, 16, 17, 2047, 2048, 2049, GREATEST - 1, GREATEST};
        for (int quiet : ints) {
            for (int fuel : ints) {
                StreamEditorX x = Feed.editor(quiet, fuel, "", "a");
                x.compile();
                x.run();
                Check.due("output of " + quiet + ", " + fuel, Feed.output(x), quiet >= 1 ? "" : "a\n");
                Feed.script(x, ENDLESS);
                x.compile();
                x.run();
                Check.due("steps of " + quiet + ", " + fuel, x.stepsUsed(), Math.max(16, Math.min(2048, fuel)));
            }
        }
    }

    private static void quietIsClamped() {
        Check.sentence("quiet is clamped into 0..1: below 0 gives 0, above 1 gives 1.");
        int[] given = {LEAST, -2, -1, 0, 1, 2, 3, GREATEST};
        String[] want = {"a\n", "a\n", "a\n", "a\n", "", "", "", ""};
        for (int n = 0; n < given.length; n++) {
            StreamEditorX x = Feed.editor(given[n], 100, "", "a");
            Feed.dueRun(x, "nothing with quiet " + given[n], StreamEditorX.RUN_DONE, want[n]);
        }
    }

    private static void quietTurnsPrintingOff() {
        Check.sentence("quiet = 1 turns automatic printing off.");
        Feed.dueOutput("", "a\nb", "a\nb\n");
        Feed.dueQuiet("", "a\nb", "");
        Feed.dueQuiet("N", "a", "");
        Feed.dueQuiet("2p", "a\nb", "b\n");
    }

    private static void fuelIsClamped() {
        Check.sentence("fuel is clamped into 16..2048: below 16 gives 16, above 2048 gives 2048;");
        int[] given = {LEAST, -1, 0, 1, 15, 16, 17, 1000, 2047, 2048, 2049, 4096, GREATEST};
        int[] want = {16, 16, 16, 16, 16, 16, 17, 1000, 2047, 2048, 2048, 2048, 2048};
        for (int n = 0; n < given.length; n++) {
            StreamEditorX x = Feed.editor(0, given[n], ENDLESS, "x");
            Feed.dueRun(x, ENDLESS + " with fuel " + given[n], StreamEditorX.RUN_OUT_OF_STEPS, "");
            Check.due("steps with fuel " + given[n], x.stepsUsed(), want[n]);
        }
    }

    private static void fuelIsTheMostThatIsReached() {
        Check.sentence("it is the most commands one run may reach.");
        for (int fuel : new int[] {LEAST, 15, 16}) {
            dueEnd(fuel, "h;".repeat(16), 1, StreamEditorX.RUN_DONE, 16);
            dueEnd(fuel, "h", 16, StreamEditorX.RUN_DONE, 16);
            dueEnd(fuel, "h", 17, StreamEditorX.RUN_OUT_OF_STEPS, 16);
        }
        dueEnd(17, "h", 17, StreamEditorX.RUN_DONE, 17);
        dueEnd(2047, "h;".repeat(16), 128, StreamEditorX.RUN_OUT_OF_STEPS, 2047);
        for (int fuel : new int[] {2048, 2049, GREATEST}) {
            dueEnd(fuel, "h;".repeat(16), 128, StreamEditorX.RUN_DONE, 2048);
            dueEnd(fuel, "1b;".repeat(16), 128, StreamEditorX.RUN_DONE, 2033);
        }
    }

    private static void dueEnd(int fuel, String script, int lines, int answer, int steps) {
        StreamEditorX x = Feed.editor(1, fuel, script, "\n".repeat(lines));
        Feed.dueRun(x, script + " on " + lines + " lines with fuel " + fuel, answer, "");
        Check.due("steps of " + script + " with fuel " + fuel, x.stepsUsed(), steps);
    }

    private static void bothStayFixed() {
        Check.sentence("Both stay fixed for the object's life.");
        StreamEditorX x = Feed.editor(1, 20, ENDLESS, "x");
        for (int n = 0; n < 3; n++) {
            Feed.dueRun(x, ENDLESS + ", time " + n, StreamEditorX.RUN_OUT_OF_STEPS, "");
            Check.due("steps of run " + n, x.stepsUsed(), 20);
            x.clearScript();
            Feed.script(x, "s/x/y/");
            Feed.dueRun(x, "s/x/y/, time " + n, StreamEditorX.RUN_DONE, "");
            x.clearScript();
            Feed.script(x, ENDLESS);
            x.clearInput();
            Feed.input(x, "x");
        }
        StreamEditorX loud = Feed.editor(0, 20, "", "x");
        for (int n = 0; n < 3; n++) {
            Feed.dueRun(loud, "nothing, time " + n, StreamEditorX.RUN_DONE, "x\n");
        }
    }

    private static void freshObjectIsEmpty() {
        Check.sentence("A fresh object has an empty script, an empty input, no table, empty output, "
                + "empty pattern and hold spaces, linesRead 0 and stepsUsed 0.");
        StreamEditorX x = new StreamEditorX(0, 16);
        Check.due("fresh hasTable", x.hasTable(), false);
        Check.due("fresh outputLength", x.outputLength(), 0);
        Check.due("fresh patternLength", x.patternLength(), 0);
        Check.due("fresh holdLength", x.holdLength(), 0);
        Check.due("fresh linesRead", x.linesRead(), 0);
        Check.due("fresh stepsUsed", x.stepsUsed(), 0);
        Check.due("fresh run", x.run(), StreamEditorX.RUN_NO_TABLE);
        Check.due("fresh script is empty", x.compile(), 0);
        Check.due("fresh input is empty", x.run(), StreamEditorX.RUN_DONE);
        Check.due("fresh input has no line", Feed.results(x), "|||0|0");
        Check.due("first script char", x.addScriptChar('p'), 1);
        Check.due("first input char", x.addInputChar('p'), 1);
    }
}
