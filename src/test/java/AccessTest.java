/** Promises 9, 10, 11 and 12, sentence by sentence. */
public final class AccessTest {
    private static final int[] FAR = {Integer.MIN_VALUE, Integer.MIN_VALUE + 1, -65536, -257, -256, -65, -64, -2, -1,
        257, 1000, 65536, Integer.MAX_VALUE - 1, Integer.MAX_VALUE};

    /** One of the three texts that can be read back. */
    private interface Reader {
        int read(StreamEditorX x, int i);
    }

    public static void main(String[] args) {
        outputLength();
        outputChar();
        patternLength();
        patternChar();
        holdLength();
        holdChar();
        readingChangesNothing();
        linesRead();
        stepsUsed();
        countingChangesNothing();
        Check.finish();
    }

    /** An editor that has run the script on the input without automatic printing. */
    private static StreamEditorX ran(String script, String input) {
        StreamEditorX x = Feed.editor(1, 2048, script, input);
        Check.due("compile of " + script + " is accepted", x.compile() >= 0, true);
        Check.due("run of " + script, x.run(), StreamEditorX.RUN_DONE);
        return x;
    }

    /** Each index inside the text gives its char; each one outside is refused. */
    private static void dueChars(String name, StreamEditorX x, Reader reader, String want) {
        for (int i = 0; i < want.length(); i++) {
            Check.due(name + " " + i, reader.read(x, i), want.charAt(i));
        }
        for (int i = want.length(); i < want.length() + 300; i++) {
            Check.due(name + " " + i + " behind its end", reader.read(x, i), StreamEditorX.REFUSED);
        }
        for (int i : FAR) {
            Check.due(name + " " + i, reader.read(x, i), StreamEditorX.REFUSED);
        }
    }

    private static void outputLength() {
        Check.sentence("`outputLength()` answers the number of chars in the output (0..256).");
        Check.due("outputLength before a run", new StreamEditorX(0, 16).outputLength(), 0);
        Check.due("outputLength without output", ran("", "a").outputLength(), 0);
        Check.due("outputLength of an empty line", ran("p", "\n").outputLength(), 1);
        Check.due("outputLength of a line", ran("p", "abc").outputLength(), 4);
        Check.due("outputLength one below full", ran("p;p;p;s/a//;p", "a".repeat(63)).outputLength(), 255);
        Check.due("outputLength when full", ran("p;p;p;p", "a".repeat(63)).outputLength(), 256);
        Check.due("outputLength when full of newlines", ran("p;p", "\n".repeat(128)).outputLength(), 256);
    }

    private static void outputChar() {
        Check.sentence("`outputChar(i)` answers the output char at 0-based index i, or `REFUSED` if i < 0 or i >= the length.");
        dueChars("outputChar", new StreamEditorX(0, 16), StreamEditorX::outputChar, "");
        dueChars("outputChar", ran("", "a"), StreamEditorX::outputChar, "");
        dueChars("outputChar", ran("p", "\n"), StreamEditorX::outputChar, "\n");
        dueChars("outputChar", ran("s/b/~ /;p", "abc"), StreamEditorX::outputChar, "a~ c\n");
        String line = "!\"#$%&'()*+,-./0123456789:;<=>?@ABCDEFGHIJKLMNOPQRSTUVWXYZ[]^_`{";
        StreamEditorX full = ran("p;p;p;s/....$//;p", line.substring(0, 64));
        dueChars("outputChar", full, StreamEditorX::outputChar,
                (line.substring(0, 64) + "\n").repeat(3) + line.substring(0, 60) + "\n");
        full.clearInput();
        Feed.input(full, "a");
        full.clearScript();
        Feed.script(full, "p");
        Feed.dueRun(full, "p", StreamEditorX.RUN_DONE, "a\n");
        dueChars("outputChar of a shorter run", full, StreamEditorX::outputChar, "a\n");
    }

    private static void patternLength() {
        Check.sentence("`patternLength()` answers the number of chars in the pattern space (0..64).");
        Check.due("patternLength before a run", new StreamEditorX(0, 16).patternLength(), 0);
        Check.due("patternLength of an empty line", ran("", "\n").patternLength(), 0);
        Check.due("patternLength after d", ran("d", "abc").patternLength(), 0);
        Check.due("patternLength of a line", ran("", "abc").patternLength(), 3);
        Check.due("patternLength of joined lines", ran("N", "abc\nd").patternLength(), 5);
        Check.due("patternLength one below full", ran("", "a".repeat(63)).patternLength(), 63);
        Check.due("patternLength when full", ran("", "a".repeat(64)).patternLength(), 64);
    }

    private static void patternChar() {
        Check.sentence("`patternChar(i)` answers the pattern space char at index i, or `REFUSED` if i < 0 or i >= the length.");
        dueChars("patternChar", new StreamEditorX(0, 16), StreamEditorX::patternChar, "");
        dueChars("patternChar", ran("h;d", "abc"), StreamEditorX::patternChar, "");
        dueChars("patternChar", ran("s/b/~ /", "abc"), StreamEditorX::patternChar, "a~ c");
        dueChars("patternChar", ran("N", "ab\nc"), StreamEditorX::patternChar, "ab\nc");
        StreamEditorX full = ran("s/....$/wxyz/", "a".repeat(64));
        dueChars("patternChar", full, StreamEditorX::patternChar, "a".repeat(60) + "wxyz");
        full.clearInput();
        Feed.input(full, "q");
        full.run();
        dueChars("patternChar of a shorter run", full, StreamEditorX::patternChar, "q");
    }

    private static void holdLength() {
        Check.sentence("`holdLength()` answers the number of chars in the hold space (0..64).");
        Check.due("holdLength before a run", new StreamEditorX(0, 16).holdLength(), 0);
        Check.due("holdLength without h", ran("p", "abc").holdLength(), 0);
        Check.due("holdLength of a line", ran("h;d", "abc").holdLength(), 3);
        Check.due("holdLength after H", ran("H", "abc").holdLength(), 4);
        Check.due("holdLength one below full", ran("h", "a".repeat(63)).holdLength(), 63);
        Check.due("holdLength when full", ran("h", "a".repeat(64)).holdLength(), 64);
        Check.due("holdLength when filled by H", ran("H", "a".repeat(63)).holdLength(), 64);
    }

    private static void holdChar() {
        Check.sentence("`holdChar(i)` answers the hold space char at index i, or `REFUSED` if i < 0 or i >= the length.");
        dueChars("holdChar", new StreamEditorX(0, 16), StreamEditorX::holdChar, "");
        dueChars("holdChar", ran("", "abc"), StreamEditorX::holdChar, "");
        dueChars("holdChar", ran("h;s/b/~ /", "abc"), StreamEditorX::holdChar, "abc");
        dueChars("holdChar", ran("H", "ab\nc"), StreamEditorX::holdChar, "\nab\nc");
        StreamEditorX full = ran("s/....$/wxyz/;h", "a".repeat(64));
        dueChars("holdChar", full, StreamEditorX::holdChar, "a".repeat(60) + "wxyz");
        full.clearInput();
        Feed.input(full, "q");
        full.run();
        dueChars("holdChar of a shorter run", full, StreamEditorX::holdChar, "q");
    }

    private static void readingChangesNothing() {
        Check.sentence("Neither changes anything.");
        StreamEditorX x = Feed.editor("1h;2H", "ab\ncd\n");
        x.compile();
        x.run();
        for (int n = 0; n < 2; n++) {
            dueChars("outputChar", x, StreamEditorX::outputChar, "ab\ncd\n");
            dueChars("patternChar", x, StreamEditorX::patternChar, "cd");
            dueChars("holdChar", x, StreamEditorX::holdChar, "ab\ncd");
            Check.due("results after reading", Feed.results(x), "ab\ncd\n|cd|ab\ncd|2|4");
            Check.due("table after reading", x.hasTable(), true);
            Check.due("the run after reading", x.run(), StreamEditorX.RUN_DONE);
        }
        Check.due("length of the script after reading", x.addScriptChar(' '), 6);
        Check.due("length of the input after reading", x.addInputChar(' '), 7);
    }

    private static void linesRead() {
        Check.sentence("`linesRead()` answers the input lines read by the last run (0 before any run).");
        StreamEditorX x = Feed.editor("p;p", "a\nb\nc");
        Check.due("linesRead before compile", x.linesRead(), 0);
        x.run();
        Check.due("linesRead after a run without table", x.linesRead(), 0);
        x.compile();
        Check.due("linesRead before a run", x.linesRead(), 0);
        x.run();
        Check.due("linesRead", x.linesRead(), 3);
        x.clearInput();
        x.addInputChar('a');
        Check.due("linesRead until the next run", x.linesRead(), 3);
        x.run();
        Check.due("linesRead of the next run", x.linesRead(), 1);
        x.clearInput();
        x.run();
        Check.due("linesRead of an empty input", x.linesRead(), 0);
        Check.due("linesRead of a full input", ran("", "\n".repeat(128)).linesRead(), 128);
        Check.due("linesRead by N", ran("N;N", "a\nb\nc").linesRead(), 3);
    }

    private static void stepsUsed() {
        Check.sentence("`stepsUsed()` answers the commands reached by the last run (0 before any run).");
        StreamEditorX x = Feed.editor("p;p", "a\nb\nc");
        Check.due("stepsUsed before compile", x.stepsUsed(), 0);
        x.run();
        Check.due("stepsUsed after a run without table", x.stepsUsed(), 0);
        x.compile();
        Check.due("stepsUsed before a run", x.stepsUsed(), 0);
        x.run();
        Check.due("stepsUsed", x.stepsUsed(), 6);
        x.clearInput();
        x.addInputChar('a');
        Check.due("stepsUsed until the next run", x.stepsUsed(), 6);
        x.run();
        Check.due("stepsUsed of the next run", x.stepsUsed(), 2);
        x.clearInput();
        x.run();
        Check.due("stepsUsed of an empty input", x.stepsUsed(), 0);
        Check.due("stepsUsed without commands", ran("", "a\nb").stepsUsed(), 0);
        Check.due("stepsUsed of not selected commands", ran("3p;3p", "a\nb").stepsUsed(), 4);
        Check.due("the most stepsUsed", ran("h;".repeat(16), "\n".repeat(128)).stepsUsed(), 2048);
    }

    private static void countingChangesNothing() {
        Check.sentence("Neither changes anything.");
        StreamEditorX x = ran("h;p", "a\nb");
        for (int n = 0; n < 3; n++) {
            Check.due("linesRead", x.linesRead(), 2);
            Check.due("stepsUsed", x.stepsUsed(), 4);
            Check.due("results", Feed.results(x), "a\nb\n|b|b|2|4");
            Check.due("table", x.hasTable(), true);
        }
    }
}
