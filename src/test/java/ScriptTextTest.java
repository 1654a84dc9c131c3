/** Promises 2 and 3. */
public final class ScriptTextTest {
    public static void main(String[] args) {
        onlyTextCharsAreTaken();
        theScriptHoldsAtMost128();
        aTakenCharDropsTheTable();
        aRefusedCharChangesNothing();
        clearDropsScriptAndTableAlone();
        Check.finish();
    }

    private static void onlyTextCharsAreTaken() {
        for (int c = -300; c <= 400; c++) {
            boolean taken = c == 10 || c >= 32 && c <= 126;
            Check.due("addScriptChar " + c, new StreamEditorX(0, 16).addScriptChar(c), taken ? 1 : -1);
        }
        int[] far = {Integer.MIN_VALUE, Integer.MAX_VALUE, 65536 + 'p', 256 + 'p'};
        for (int c : far) {
            Check.due("addScriptChar " + c, new StreamEditorX(0, 16).addScriptChar(c), StreamEditorX.REFUSED);
        }
    }

    private static void theScriptHoldsAtMost128() {
        StreamEditorX x = new StreamEditorX(0, 16);
        for (int n = 1; n <= 128; n++) {
            Check.due("script char " + n, x.addScriptChar(';'), n);
        }
        Check.due("script char 129", x.addScriptChar(';'), StreamEditorX.REFUSED);
        Check.due("wrong script char 129", x.addScriptChar(9), StreamEditorX.REFUSED);
        Check.due("the full script", x.compile(), 0);
        x.clearScript();
        Check.due("after clearScript", x.addScriptChar(';'), 1);
    }

    private static void aTakenCharDropsTheTable() {
        StreamEditorX x = Feed.editor("p;h", "a\nb");
        x.compile();
        x.run();
        String before = Feed.results(x);
        Check.due("the char behind", x.addScriptChar(' '), 4);
        Check.due("table after a char", x.hasTable(), false);
        Check.due("run after a char", x.run(), StreamEditorX.RUN_NO_TABLE);
        Check.due("results after a char", Feed.results(x), before);
        x.compile();
        x.run();
        Check.due("the input is as before", Feed.results(x), before);
    }

    private static void aRefusedCharChangesNothing() {
        StreamEditorX x = Feed.editor("p", "a");
        x.compile();
        x.run();
        String before = Feed.results(x);
        Check.due("a wrong char", x.addScriptChar(127), StreamEditorX.REFUSED);
        Check.due("table after a wrong char", x.hasTable(), true);
        Check.due("results after a wrong char", Feed.results(x), before);
        Check.due("length after a wrong char", x.addScriptChar(';'), 2);
        for (int n = 3; n <= 128; n++) {
            x.addScriptChar(' ');
        }
        Check.due("compile when full", x.compile(), 1);
        Check.due("a char too many", x.addScriptChar('p'), StreamEditorX.REFUSED);
        Check.due("table after a char too many", x.hasTable(), true);
        Check.due("compile after a char too many", x.compile(), 1);
    }

    private static void clearDropsScriptAndTableAlone() {
        StreamEditorX x = Feed.editor("h", "a\nb");
        x.compile();
        x.run();
        String before = Feed.results(x);
        x.clearScript();
        Check.due("table after clearScript", x.hasTable(), false);
        Check.due("run after clearScript", x.run(), StreamEditorX.RUN_NO_TABLE);
        Check.due("results after clearScript", Feed.results(x), before);
        Check.due("compile after clearScript", x.compile(), 0);
        x.run();
        Check.due("input after clearScript", Feed.output(x), "a\nb\n");
        x.clearScript();
        x.clearScript();
        Check.due("length after clearScript", x.addScriptChar('p'), 1);
    }
}
