/** Feeds whole texts to an editor and reads whole texts back. */
final class Feed {
    static final int LOUD = 0;
    static final int QUIET = 1;
    static final int MUCH = 2048;

    private Feed() {
    }

    static StreamEditorX editor(String script, String input) {
        return editor(LOUD, MUCH, script, input);
    }

    static StreamEditorX editor(int quiet, int fuel, String script, String input) {
        StreamEditorX x = new StreamEditorX(quiet, fuel);
        script(x, script);
        input(x, input);
        return x;
    }

    static void script(StreamEditorX x, String script) {
        for (int i = 0; i < script.length(); i++) {
            if (x.addScriptChar(script.charAt(i)) < 0) {
                throw new IllegalStateException("the test's script does not fit: " + script);
            }
        }
    }

    static void input(StreamEditorX x, String input) {
        for (int i = 0; i < input.length(); i++) {
            if (x.addInputChar(input.charAt(i)) < 0) {
                throw new IllegalStateException("the test's input does not fit: " + input);
            }
        }
    }

    /** What compile() answers for the script. */
    static int compiled(String script) {
        return editor(script, "").compile();
    }

    static String output(StreamEditorX x) {
        StringBuilder text = new StringBuilder();
        for (int i = 0; i < x.outputLength(); i++) {
            text.append((char) x.outputChar(i));
        }
        return text.toString();
    }

    static String pattern(StreamEditorX x) {
        StringBuilder text = new StringBuilder();
        for (int i = 0; i < x.patternLength(); i++) {
            text.append((char) x.patternChar(i));
        }
        return text.toString();
    }

    static String hold(StreamEditorX x) {
        StringBuilder text = new StringBuilder();
        for (int i = 0; i < x.holdLength(); i++) {
            text.append((char) x.holdChar(i));
        }
        return text.toString();
    }

    /** All that a run leaves behind, in one text. */
    static String results(StreamEditorX x) {
        return output(x) + "|" + pattern(x) + "|" + hold(x) + "|" + x.linesRead() + "|" + x.stepsUsed();
    }

    /** Checks that the script compiles and that a run on the input answers RUN_DONE with the output. */
    static void dueOutput(String script, String input, String want) {
        dueRun(editor(script, input), script, StreamEditorX.RUN_DONE, want);
    }

    /** As dueOutput, without automatic printing. */
    static void dueQuiet(String script, String input, String want) {
        dueRun(editor(QUIET, MUCH, script, input), script, StreamEditorX.RUN_DONE, want);
    }

    /** Compiles, runs, and checks the run's answer and the output. */
    static void dueRun(StreamEditorX x, String script, int answer, String want) {
        Check.due("compile of " + script + " is accepted", x.compile() >= 0, true);
        Check.due("run of " + script, x.run(), answer);
        Check.due("output of " + script, output(x), want);
    }
}
