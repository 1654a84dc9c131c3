/** Promise 8: the cycles and what each command does in them, sentence by sentence. */
public final class CycleTest {
    private static final String A31 = "a".repeat(31);
    private static final String A32 = "a".repeat(32);
    private static final String A60 = Runs.A60;
    private static final String A63 = Runs.A63;
    private static final String A64 = Runs.A64;
    private static final String A65 = Runs.A65;

    public static void main(String[] args) {
        endOfTheLines();
        longLines();
        newCycle();
        notSelected();
        deleting();
        printing();
        joining();
        joiningOverflow();
        joiningAtTheEnd();
        copying();
        appendingToHold();
        appendingToPattern();
        swapping();
        labels();
        branching();
        testing();
        testFlag();
        automaticPrinting();
        Check.finish();
    }

    private static void endOfTheLines() {
        Check.sentence("If all lines have been read, the run ends with `RUN_DONE`.");
        Runs.done("", "", "|||0|0");
        Runs.done("p", "a\n", "a\na\n|a||1|1");
        Runs.done("N", "a\nb", "a\nb\n|a\nb||2|1");
        Runs.done("N;d", "a\nb", "|||2|2");
        Runs.done("", "\n".repeat(128), "\n".repeat(128) + "|||128|0");
    }

    private static void longLines() {
        Check.sentence("If the next line is longer than 64, the run stops with `RUN_OVERFLOW`.");
        Runs.done("", A64, A64 + "\n|" + A64 + "||1|0");
        Runs.done("", A64 + "\n", A64 + "\n|" + A64 + "||1|0");
        Runs.done("", A64 + "\n" + A63, A64 + "\n" + A63 + "\n|" + A63 + "||2|0");
        Runs.done("", A63 + "\n" + A64, A63 + "\n" + A64 + "\n|" + A64 + "||2|0");
        Runs.overflow("", A65, "|||0|0");
        Runs.overflow("", A65 + "\n", "|||0|0");
        Runs.overflow("d", A65 + "\nb", "|||0|0");
        Runs.overflow("", "b\n" + A65, "b\n|b||1|0");
        Runs.overflow("", "b\n" + A65 + "\nc", "b\n|b||1|0");
        Runs.overflow("h;d", "b\n" + A65 + "\nc", "||b|1|2");
        Runs.overflowQuiet("", "a".repeat(128), "|||0|0");
        Runs.overflow("$d", A65, "|||0|0");
        // A long line that is never the next one does no harm.
        Runs.outOfSteps(16, ":a;ba", "b\n" + A65, "|b||1|16");
    }

    private static void newCycle() {
        Check.sentence("Else it becomes the pattern space, linesRead grows by 1, the t flag becomes false, "
                + "and the command pointer k becomes 0.");
        Runs.doneQuiet("", "abc\nd", "|d||2|0");
        Runs.doneQuiet("", "abc\n\n", "|||2|0");
        Runs.doneQuiet("s/b/xyz/", "abc\nd", "|d||2|2");
        Runs.done("1s/a/b/;2t;p", "a\na", "b\nb\na\na\n|a||2|6");
        Runs.done("1s/a/b/;1d;t;p", "a\na", "a\na\n|a||2|6");
        Runs.done("t;1s/a/b/", "a\na", "b\na\n|a||2|4");
        Runs.doneQuiet("p;1bx;x;:x", "a\nb", "a\nb\n||b|2|7");
    }

    private static void notSelected() {
        Check.sentence("If not selected, k grows by 1;");
        Runs.done("2d;p", "a", "a\na\n|a||1|2");
        Runs.done("1!N;1!h;1!G;1!x;/b/p", "a", "a\n|a||1|5");
        Runs.done("2b;p", "a", "a\na\n|a||1|2");
        Runs.done("s/a/b/;2t;t;p", "a", "b\n|b||1|3");
    }

    private static void deleting() {
        Check.sentence("d: the pattern space becomes empty; the cycle ends at once, without automatic printing; go to A.");
        Runs.done("d", "a\nb", "|||2|2");
        Runs.done("d;p;h", "a\nb", "|||2|2");
        Runs.done("1d", "a\nb", "b\n|b||2|2");
        Runs.done("p;d", "a\nb", "a\nb\n|||2|4");
        Runs.done("h;d", "a\nb", "||b|2|4");
        Runs.done("$d", "a\nb", "a\n|||2|2");
        Runs.doneQuiet("d", "a", "|||1|1");
        Runs.done("d", "\n", "|||1|1");
        Runs.done("N;d", "a\nb\nc", "c\n|c||3|3");
        Runs.done("$!d", A64 + "\n" + A63, A63 + "\n|" + A63 + "||2|2");
    }

    private static void printing() {
        Check.sentence("p: print the pattern space; k grows by 1.");
        Runs.done("p;s/a/b/", "a", "a\nb\n|b||1|2");
        Runs.doneQuiet("p;p", "a", "a\na\n|a||1|2");
        Runs.doneQuiet("p;s/.*//;p", "a", "a\n\n|||1|3");
    }

    private static void joining() {
        Check.sentence("N: if a next line exists: [..] 10 and the line are appended to the pattern space, "
                + "linesRead grows by 1, k grows by 1.");
        Runs.done("N", "a\nb", "a\nb\n|a\nb||2|1");
        Runs.done("N", "a\nb\n", "a\nb\n|a\nb||2|1");
        Runs.done("N;N;N;p", "a\nb\nc", "a\nb\nc\n|a\nb\nc||3|3");
        Runs.done("N;s/\\n/-/", "a\nb\nc\nd\n", "a-b\nc-d\n|c-d||4|4");
        Runs.done("N;s/\\n/-/", "a\nb\nc", "a-b\nc\n|c||3|3");
        Runs.done("N", "\n\n", "\n\n|\n||2|1");
        Runs.done("N", "a\n\n", "a\n\n|a\n||2|1");
        Runs.done("N", "\nb", "\nb\n|\nb||2|1");
        Runs.done("2p;N;2p", "a\nb", "a\nb\na\nb\n|a\nb||2|3");
        Runs.doneQuiet("s/a/xyz/;N", "a\nb", "|xyz\nb||2|2");
        Runs.done("s/.*//;N", "abc\nd", "\nd\n|\nd||2|2");
    }

    private static void joiningOverflow() {
        Check.sentence("if pattern length + 1 + its length > 64 the run stops with `RUN_OVERFLOW`;");
        Runs.done("N", A60 + "\nbcd", A60 + "\nbcd\n|" + A60 + "\nbcd||2|1");
        Runs.overflow("N", A60 + "\nbcde", "|" + A60 + "||1|1");
        Runs.done("N", A63 + "\n\n", A63 + "\n\n|" + A63 + "\n||2|1");
        Runs.overflow("N", A63 + "\nb", "|" + A63 + "||1|1");
        Runs.overflow("N", A64 + "\n\n", "|" + A64 + "||1|1");
        Runs.done("N", "\n" + A63, "\n" + A63 + "\n|\n" + A63 + "||2|1");
        Runs.overflow("N", "\n" + A64, "|||1|1");
        Runs.overflow("N", "a\n" + A64, "|a||1|1");
        Runs.overflow("N", "a\n" + A65, "|a||1|1");
        Runs.overflowQuiet("N", A64 + "\n" + A63, "|" + A64 + "||1|1");
        Runs.done("N;N", A60 + "\nb\n\n", A60 + "\nb\n\n|" + A60 + "\nb\n||3|2");
        Runs.overflow("N;N;p", A60 + "\nbc\nd", "|" + A60 + "\nbc||2|2");
        Runs.overflow("s/b/&&/;N", A60 + "b\nab", "|" + A60 + "bb||1|2");
        Runs.done("s/b//;N", A60 + "b\nabc", A60 + "\nabc\n|" + A60 + "\nabc||2|2");
    }

    private static void joiningAtTheEnd() {
        Check.sentence("If no next line exists: if quiet = 0 the pattern space is printed; "
                + "then the run ends with `RUN_DONE` (unless the printing stopped it).");
        Runs.done("N", "a", "a\n|a||1|1");
        Runs.done("N", "a\n", "a\n|a||1|1");
        Runs.done("N", "\n", "\n|||1|1");
        Runs.doneQuiet("N", "a", "|a||1|1");
        Runs.doneQuiet("N;p;h", "a", "|a||1|1");
        Runs.done("N;p;h", "a", "a\n|a||1|1");
        Runs.done("N;N;p", A60 + "\nbc\n", A60 + "\nbc\n|" + A60 + "\nbc||2|2");
        Runs.done("N", A64, A64 + "\n|" + A64 + "||1|1");
        Runs.overflow("p;p;p;p;N", A63, (A63 + "\n").repeat(4) + "|" + A63 + "||1|5");
        Runs.overflow("p;p;p;p;N;h;d", A63, (A63 + "\n").repeat(4) + "|" + A63 + "||1|5");
        Runs.doneQuiet("p;p;p;p;N", A63, (A63 + "\n").repeat(4) + "|" + A63 + "||1|5");
        Runs.done("$!N;p", "a", "a\na\n|a||1|2");
    }

    private static void copying() {
        Check.sentence("h: hold space = pattern space. g: pattern space = hold space.");
        Runs.done("h", "a\nbc", "a\nbc\n|bc|bc|2|2");
        Runs.done("h", "abc\n\n", "abc\n\n|||2|2");
        Runs.done("1h;2h", "abc\nd", "abc\nd\n|d|d|2|4");
        Runs.done("g", "a\nb", "\n\n|||2|2");
        Runs.done("1h;2g", "abc\nd", "abc\nabc\n|abc|abc|2|4");
        Runs.done("1h;2g", "d\nabc", "d\nd\n|d|d|2|4");
        Runs.doneQuiet("h;s/.*//;g", A64, "|" + A64 + "|" + A64 + "|1|3");
        Runs.doneQuiet("h;s/a/b/", A64, "|b" + A63 + "|" + A64 + "|1|2");
        Runs.doneQuiet("s/.$/b/;h;s/.*//;g", A64, "|" + A63 + "b|" + A63 + "b|1|4");
        Runs.doneQuiet("1h;2g;s/$/b/", "a\nc", "|ab|a|2|6");
    }

    private static void appendingToHold() {
        Check.sentence("H: append 10 and the pattern space to the hold space; [..] "
                + "if the result would be longer than 64, the run stops with `RUN_OVERFLOW` and nothing changes.");
        Runs.done("H", "a\nb", "a\nb\n|b|\na\nb|2|2");
        Runs.done("H", "\n", "\n||\n|1|1");
        Runs.done("h;H", "ab", "ab\n|ab|ab\nab|1|2");
        Runs.doneQuiet("H", A63, "|" + A63 + "|\n" + A63 + "|1|1");
        Runs.overflowQuiet("H;p", A64, "|" + A64 + "||1|1");
        Runs.doneQuiet("h;s/a//;H", A32, "|" + A31 + "|" + A32 + "\n" + A31 + "|1|3");
        Runs.overflowQuiet("h;H;p", A32, "|" + A32 + "|" + A32 + "|1|2");
        Runs.doneQuiet("h;H", A31, "|" + A31 + "|" + A31 + "\n" + A31 + "|1|2");
        Runs.doneQuiet("h;s/.*//;H", A63, "||" + A63 + "\n|1|3");
        Runs.overflowQuiet("h;s/.*//;H", A64, "||" + A64 + "|1|3");
        Runs.doneQuiet("H", "\n".repeat(64), "||" + "\n".repeat(64) + "|64|64");
        Runs.overflowQuiet("H", "\n".repeat(65), "||" + "\n".repeat(64) + "|65|65");
    }

    private static void appendingToPattern() {
        Check.sentence("G: append 10 and the hold space to the pattern space; "
                + "if the result would be longer than 64, the run stops with `RUN_OVERFLOW` and nothing changes.");
        Runs.done("G", "a\nb", "a\n\nb\n\n|b\n||2|2");
        Runs.done("G", "\n", "\n\n|\n||1|1");
        Runs.done("h;G", "ab", "ab\nab\n|ab\nab|ab|1|2");
        Runs.doneQuiet("G", A63, "|" + A63 + "\n||1|1");
        Runs.overflowQuiet("G;p", A64, "|" + A64 + "||1|1");
        Runs.doneQuiet("h;s/a//;G", A32, "|" + A31 + "\n" + A32 + "|" + A32 + "|1|3");
        Runs.overflowQuiet("h;G;p", A32, "|" + A32 + "|" + A32 + "|1|2");
        Runs.doneQuiet("h;G", A31, "|" + A31 + "\n" + A31 + "|" + A31 + "|1|2");
        Runs.doneQuiet("h;s/.*//;G", A63, "|\n" + A63 + "|" + A63 + "|1|3");
        Runs.overflowQuiet("h;s/.*//;G", A64, "||" + A64 + "|1|3");
        Runs.done("1!G;h;$!d", "a\nb\nc", "c\nb\na\n|c\nb\na|c\nb\na|3|9");
    }

    private static void swapping() {
        Check.sentence("x: the two spaces swap contents. For h g H G x, k grows by 1.");
        Runs.done("x", "a\nbcd\ne", "\na\nbcd\n|bcd|e|3|3");
        Runs.done("x;x", "ab", "ab\n|ab||1|2");
        Runs.done("x;G", "ab\nc", "\nab\nab\nc\n|ab\nc|c|2|4");
        Runs.doneQuiet("x", A64 + "\nb", "|" + A64 + "|b|2|2");
        Runs.doneQuiet("h;s/.$/b/;x", A64, "|" + A64 + "|" + A63 + "b|1|3");
        Runs.doneQuiet("h;s/^./b/;x", A64, "|" + A64 + "|b" + A63 + "|1|3");
        Runs.doneQuiet("h;x;g;x", A64, "|" + A64 + "|" + A64 + "|1|4");
        Runs.doneQuiet("x", "\n", "|||1|1");
        Runs.doneQuiet("h;g;H;x;s/.*//;G;p", "a", "\na\n|\na|a|1|7");
    }

    private static void labels() {
        Check.sentence("':': nothing; k grows by 1.");
        Runs.done(":a;p", "a", "a\na\n|a||1|2");
        Runs.done("p;:a", "a", "a\na\n|a||1|2");
        Runs.done(":a", "a\nb", "a\nb\n|b||2|2");
        Runs.done("s/a/b/;:x;t;p", "a", "b\n|b||1|3");
    }

    private static void branching() {
        Check.sentence("b: k becomes the number of the ':' command with its label, or, with no label, the number of commands.");
        Runs.done("b;p", "a", "a\n|a||1|1");
        Runs.doneQuiet("b;p", "a", "|a||1|1");
        Runs.done("p;b", "a", "a\na\n|a||1|2");
        Runs.done("bx;p;:x", "a", "a\n|a||1|2");
        Runs.done("bx;p;:x;p", "a", "a\na\n|a||1|3");
        Runs.done("1bx;p;:x", "a\nb", "a\nb\nb\n|b||2|5");
        Runs.done("1!b;p", "a\nb", "a\na\nb\n|b||2|3");
        Runs.done(":a;N;ba", "a\nb\nc", "a\nb\nc\n|a\nb\nc||3|8");
        Runs.done(":a;$!N;$!ba;s/\\n/,/g", "a\nb\nc", "a,b,c\n|a,b,c||3|7");
        Runs.doneQuiet("bab;:a;p;b;:ab;x;ba", "q", "\n||q|1|7");
        Runs.done("ba;" + "p;".repeat(14) + ":a", "x", "x\n|x||1|2");
        Runs.outOfSteps(16, ":a;" + "h;".repeat(14) + "ba", "x", "|x|x|1|16");
        Runs.outOfSteps(17, ":a;ba;p", "x", "|x||1|17");
        Runs.done("b12345678;p;:12345678", "x", "x\n|x||1|2");
    }

    private static void testing() {
        Check.sentence("t: if the t flag is true, it becomes false and k changes as for b; else k grows by 1.");
        Runs.done("t;p", "a", "a\na\n|a||1|2");
        Runs.done("s/a/b/;t;p", "a\nc", "b\nc\nc\n|c||2|5");
        Runs.done("s/a/b/;t;t;p", "a", "b\n|b||1|2");
        Runs.done(":l;s/a/b/;tl", "aaa", "bbb\n|bbb||1|12");
        Runs.done("s/a/b/;tx;:x;t;p", "a", "b\nb\n|b||1|5");
        Runs.done("s/a/b/;tx;p;:x", "a", "b\n|b||1|3");
        Runs.done("s/a/b/;t", "a", "b\n|b||1|2");
        Runs.done("ta;p;:a", "a", "a\na\n|a||1|3");
        Runs.done("s/a/b/;1!t;t;p", "a", "b\n|b||1|3");
    }

    private static void testFlag() {
        Check.sentence("The t flag is reset only in A and here.");
        Runs.done("s/a/b/;s/x/y/;t;p", "a", "b\n|b||1|3");
        Runs.done("1s/a/b/;N;t;p", "a\na", "b\na\n|b\na||2|3");
        Runs.done("s/a/b/;h;g;H;G;x;t;p", "a", "b\nb\n|b\nb|b\nb\nb|1|7");
        Runs.done("s/a/b/;:x;bz;:z;t;p", "a", "b\n|b||1|5");
        Runs.done("s/a/b/;2t;2d;2p;t;p", "a", "b\n|b||1|5");
        Runs.done("1s/a/b/;2t;s/$/!/", "a\na", "b!\na!\n|a!||2|6");
    }

    private static void automaticPrinting() {
        Check.sentence("When k = number of commands: if quiet = 0 the pattern space is printed; go to A.");
        Runs.done("", "a\nb", "a\nb\n|b||2|0");
        Runs.doneQuiet("", "a\nb", "|b||2|0");
        Runs.done("s/a/b/", "a\na", "b\nb\n|b||2|2");
        Runs.done("2d", "a\nb\nc", "a\nc\n|c||3|3");
        Runs.done("x", "a\n", "\n||a|1|1");
        Runs.overflow("p;p;p", A64, (A64 + "\n").repeat(3) + "|" + A64 + "||1|3");
        Runs.done("p;p;p", A63, (A63 + "\n").repeat(4) + "|" + A63 + "||1|3");
    }
}
