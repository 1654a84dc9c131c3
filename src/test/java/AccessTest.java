/** Promises 9, 10, 11 and 12. */
public final class AccessTest {
    public static void main(String[] args) {
        emptyResults();
        charsByIndex();
        fullResults();
        countsOfTheLastRun();
        shrunkenResults();
        readingChangesNothing();
        Check.finish();
    }

    private static final int[] FAR = {Integer.MIN_VALUE, -65, -2, -1, 1000, 65536, Integer.MAX_VALUE};

    private static void dueRefusedFrom(StreamEditorX x, int output, int pattern, int hold) {
        for (int i : FAR) {
            Check.due("outputChar " + i, x.outputChar(i), StreamEditorX.REFUSED);
            Check.due("patternChar " + i, x.patternChar(i), StreamEditorX.REFUSED);
            Check.due("holdChar " + i, x.holdChar(i), StreamEditorX.REFUSED);
        }
        for (int n = 0; n < 300; n++) {
            Check.due("outputChar behind its end", x.outputChar(output + n), StreamEditorX.REFUSED);
            Check.due("patternChar behind its end", x.patternChar(pattern + n), StreamEditorX.REFUSED);
            Check.due("holdChar behind its end", x.holdChar(hold + n), StreamEditorX.REFUSED);
        }
    }

    private static void dueLengths(StreamEditorX x, int output, int pattern, int hold) {
        Check.due("outputLength", x.outputLength(), output);
        Check.due("patternLength", x.patternLength(), pattern);
        Check.due("holdLength", x.holdLength(), hold);
        dueRefusedFrom(x, output, pattern, hold);
    }

    private static void emptyResults() {
        StreamEditorX x = new StreamEditorX(0, 100);
        dueLengths(x, 0, 0, 0);
        Check.due("linesRead", x.linesRead(), 0);
        Check.due("stepsUsed", x.stepsUsed(), 0);
    }

    private static void charsByIndex() {
        StreamEditorX x = Feed.editor("h;s/b/~ /", "abc");
        x.compile();
        x.run();
        dueLengths(x, 5, 4, 3);
        Check.due("outputChar 0", x.outputChar(0), 'a');
        Check.due("outputChar 1", x.outputChar(1), '~');
        Check.due("outputChar 2", x.outputChar(2), ' ');
        Check.due("outputChar 4", x.outputChar(4), 10);
        Check.due("patternChar 0", x.patternChar(0), 'a');
        Check.due("patternChar 3", x.patternChar(3), 'c');
        Check.due("holdChar 0", x.holdChar(0), 'a');
        Check.due("holdChar 2", x.holdChar(2), 'c');
    }

    private static void fullResults() {
        StreamEditorX x = Feed.editor(1, 100, "p;p;p;s/....$//;p;s/$/wxyz/;h", "a".repeat(64));
        x.compile();
        Check.due("run", x.run(), StreamEditorX.RUN_DONE);
        dueLengths(x, 256, 64, 64);
        Check.due("outputChar 255", x.outputChar(255), 10);
        Check.due("outputChar 254", x.outputChar(254), 'a');
        Check.due("patternChar 63", x.patternChar(63), 'z');
        Check.due("holdChar 63", x.holdChar(63), 'z');
    }

    private static void countsOfTheLastRun() {
        StreamEditorX x = Feed.editor("p;p", "a\nb\nc");
        x.compile();
        Check.due("linesRead before a run", x.linesRead(), 0);
        Check.due("stepsUsed before a run", x.stepsUsed(), 0);
        x.run();
        Check.due("linesRead", x.linesRead(), 3);
        Check.due("stepsUsed", x.stepsUsed(), 6);
        x.clearInput();
        x.addInputChar('a');
        Check.due("linesRead until the next run", x.linesRead(), 3);
        x.run();
        Check.due("linesRead of the next run", x.linesRead(), 1);
        Check.due("stepsUsed of the next run", x.stepsUsed(), 2);
    }

    private static void shrunkenResults() {
        StreamEditorX x = Feed.editor("h;p", "abcdef");
        x.compile();
        x.run();
        dueLengths(x, 14, 6, 6);
        x.clearInput();
        Feed.input(x, "g");
        x.run();
        dueLengths(x, 4, 1, 1);
        x.clearInput();
        x.run();
        dueLengths(x, 0, 0, 0);
    }

    private static void readingChangesNothing() {
        StreamEditorX x = Feed.editor("1h;2H", "ab\ncd\n");
        x.compile();
        x.run();
        String before = Feed.results(x);
        dueRefusedFrom(x, 6, 2, 5);
        Check.due("results after reading", Feed.results(x), before);
        Check.due("results after reading twice", Feed.results(x), "ab\ncd\n|cd|ab\ncd|2|4");
        Check.due("table after reading", x.hasTable(), true);
        x.run();
        Check.due("the run after reading", Feed.results(x), before);
    }
}
