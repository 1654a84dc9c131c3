/** Checks the answer of a run and all that it leaves behind: output|pattern space|hold space|linesRead|stepsUsed. */
final class Runs {
    static final String A60 = "a".repeat(60);
    static final String A63 = "a".repeat(63);
    static final String A64 = "a".repeat(64);
    static final String A65 = "a".repeat(65);

    private Runs() {
    }

    static void due(int quiet, int fuel, String script, String input, int answer, String want) {
        StreamEditorX x = Feed.editor(quiet, fuel, script, input);
        Check.due("compile of " + script + " is accepted", x.compile() >= 0, true);
        Check.due("run of " + script + " on " + input, x.run(), answer);
        Check.due("results of " + script + " on " + input, Feed.results(x), want);
    }

    static void done(String script, String input, String want) {
        due(Feed.LOUD, Feed.MUCH, script, input, StreamEditorX.RUN_DONE, want);
    }

    static void doneQuiet(String script, String input, String want) {
        due(Feed.QUIET, Feed.MUCH, script, input, StreamEditorX.RUN_DONE, want);
    }

    static void overflow(String script, String input, String want) {
        due(Feed.LOUD, Feed.MUCH, script, input, StreamEditorX.RUN_OVERFLOW, want);
    }

    static void overflowQuiet(String script, String input, String want) {
        due(Feed.QUIET, Feed.MUCH, script, input, StreamEditorX.RUN_OVERFLOW, want);
    }

    static void outOfSteps(int fuel, String script, String input, String want) {
        due(Feed.LOUD, fuel, script, input, StreamEditorX.RUN_OUT_OF_STEPS, want);
    }

    static void doneWith(int fuel, String script, String input, String want) {
        due(Feed.LOUD, fuel, script, input, StreamEditorX.RUN_DONE, want);
    }
}
