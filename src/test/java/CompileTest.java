/** Promise 6, the syntax, and promise 7, sentence by sentence. */
public final class CompileTest {
    private static final String[] VERBS = {"d", "p", "N", "h", "H", "g", "G", "x", "b", "t", "s/a/b/"};

    public static void main(String[] args) {
        theAnswerIsTheNumberOfCommands();
        aRejectedScriptHasNoTable();
        nothingElseChanges();
        readFromTheFirstChar();
        oneBrokenRuleIsEnough();
        separatorsArePassed();
        firstAddress();
        secondAddress();
        negation();
        negationNeedsAnAddress();
        numbers();
        regexAddresses();
        substitutions();
        plainVerbs();
        labels();
        branches();
        otherChars();
        commandEnds();
        tooManyCommands();
        sameLabels();
        missingLabels();
        commandNumbers();
        equalLabels();
        tablePresence();
        Check.finish();
    }

    private static void theAnswerIsTheNumberOfCommands() {
        Check.sentence("the answer is its number of commands (0..16; an empty script gives 0).");
        Check.due("compile of an empty script", new StreamEditorX(0, 16).compile(), 0);
        for (int n = 0; n <= 16; n++) {
            Scripts.accepted(n, "p;".repeat(n), "p\n".repeat(n), " d ;".repeat(n));
        }
        Scripts.accepted(3, "s/a/b/g;1,$!d;b", ":a;:b;:c");
    }

    private static void aRejectedScriptHasNoTable() {
        Check.sentence("If rejected, the table becomes absent and the answer is `COMPILE_ERROR`.");
        StreamEditorX x = Feed.editor("p", "a");
        Check.due("compile", x.compile(), 1);
        x.addScriptChar('?');
        for (int n = 0; n < 2; n++) {
            Check.due("compile of a wrong script", x.compile(), StreamEditorX.COMPILE_ERROR);
            Check.due("table after it", x.hasTable(), false);
            Check.due("run after it", x.run(), StreamEditorX.RUN_NO_TABLE);
        }
        dueNewRejection("s/a/b/", "s/a/b");
        dueNewRejection("/a/p", "/a");
        dueNewRejection(":a;ba", ":");
        dueNewRejection("1p", "1");
        dueNewRejection("1,2p", "1,");
        dueNewRejection("p;:a", "ba");
    }

    /** The chars of the longer script must not be seen behind the end of the shorter one. */
    private static void dueNewRejection(String longer, String shorter) {
        StreamEditorX x = Feed.editor(longer, "");
        Check.due("compile of " + longer + " is accepted", x.compile() > 0, true);
        x.clearScript();
        Feed.script(x, shorter);
        Check.due("compile of " + shorter, x.compile(), StreamEditorX.COMPILE_ERROR);
        Check.due("table of " + shorter, x.hasTable(), false);
    }

    private static void nothingElseChanges() {
        Check.sentence("Nothing else changes (script, input, run results stay).");
        StreamEditorX x = Feed.editor("p;h", "a");
        Check.due("compile before a run", x.compile(), 2);
        Check.due("results before a run", Feed.results(x), "|||0|0");
        x.run();
        String results = "a\na\n|a|a|1|2";
        Check.due("results", Feed.results(x), results);
        for (int n = 0; n < 3; n++) {
            Check.due("compile again", x.compile(), 2);
            Check.due("results after compile", Feed.results(x), results);
        }
        x.run();
        Check.due("the input after compile", Feed.results(x), results);
        Check.due("the length of the script after compile", x.addScriptChar('?'), 4);
        Check.due("compile of a wrong script", x.compile(), StreamEditorX.COMPILE_ERROR);
        Check.due("results after a wrong script", Feed.results(x), results);
        Check.due("the length of a wrong script", x.addScriptChar('?'), 5);
        Check.due("a wrong script stays wrong", x.compile(), StreamEditorX.COMPILE_ERROR);
        Check.due("the length of the input", x.addInputChar('b'), 2);
        x.clearScript();
        Feed.dueRun(x, "nothing", StreamEditorX.RUN_DONE, "ab\n");
        aNewTableForgetsTheOldOne();
    }

    private static void aNewTableForgetsTheOldOne() {
        StreamEditorX x = Feed.editor("1,2!s/^a*$/[&]/g", "aa\naa\nab");
        x.compile();
        x.run();
        dueNewOutput(x, "s/a/b/", "ba\nba\nbb\n");
        dueNewOutput(x, "p", "aa\naa\naa\naa\nab\nab\n");
        dueNewOutput(x, "1,3d", "");
        dueNewOutput(x, "1d", "aa\nab\n");
        dueNewOutput(x, "s/xb*a*/y/;:abc;b", "aa\naa\nab\n");
        dueNewOutput(x, "s/a/y/", "ya\nya\nyb\n");
        dueNewOutput(x, "s/./y/", "ya\nya\nyb\n");
    }

    private static void dueNewOutput(StreamEditorX x, String script, String want) {
        x.clearScript();
        Feed.script(x, script);
        Feed.dueRun(x, script, StreamEditorX.RUN_DONE, want);
    }

    private static void readFromTheFirstChar() {
        Check.sentence("The compiler reads from the script's first char.");
        StreamEditorX x = Feed.editor("?p", "");
        Check.due("a wrong first char", x.compile(), StreamEditorX.COMPILE_ERROR);
        Check.due("the same once more", x.compile(), StreamEditorX.COMPILE_ERROR);
        StreamEditorX y = Feed.editor("p;d", "");
        for (int n = 0; n < 3; n++) {
            Check.due("compile, time " + n, y.compile(), 2);
        }
    }

    private static void oneBrokenRuleIsEnough() {
        Check.sentence("The whole script is rejected if any rule is broken.");
        Scripts.rejected("p;d;?;x", "?;p", "p;?", "p;".repeat(15) + "?", "p;".repeat(16) + "?", "?;" + "p;".repeat(15));
    }

    private static void separatorsArePassed() {
        Check.sentence("Pass over all chars 32, ';' and 10. At the end of the script, parsing is over.");
        Scripts.accepted(0, "", " ", ";", "\n", " ;\n; \n", " ".repeat(128), ";".repeat(128), "\n".repeat(128));
        Scripts.accepted(1, "p", " p", ";p", "\np", "p ", "p;", "p\n", " ;\n p \n; ", "p" + ";".repeat(127));
        Scripts.accepted(2, "p;p", "p\np", "p ; p", "p;;p", "p\n\n ;p", "p" + "\n".repeat(126) + "p");
        Scripts.rejected(",", ",p", "p;,;p");
    }

    private static void firstAddress() {
        Check.sentence("If the char is a digit, '$' or '/', addr1 is read, then blanks are skipped;");
        Scripts.accepted(1, "1p", "9p", "$p", "/a/p", "1 p", "$ p", "/a/ p", "1   p", "1" + " ".repeat(126) + "p");
        Scripts.rejected("1", "1 ", "9", "$", "$ ", "/a/", "/a/ ", "1;p", "1\np", "$;p", "/a/\np", "1;", "$\n");
        Scripts.rejected("1 2p", "$$p", "$1p", "/a//b/p", "-1p", "+1p", "ap", "\\/a/p");
    }

    private static void secondAddress() {
        Check.sentence("if the char is then ',', blanks are skipped, addr2 is read (it must be there) and blanks are skipped.");
        for (String first : new String[] {"1", "$", "/a/", "255 ", "$ ", "/a/  "}) {
            for (String second : new String[] {"1", "$", "/b/", " 9", "  $", " /b/"}) {
                Scripts.accepted(1, first + "," + second + "p", first + "," + second + " p", first + "," + second + "!p");
            }
            Scripts.rejected(first + ",", first + ", ", first + ",p", first + ", p", first + ",!p", first + ",;p", first + ",\n2p");
            Scripts.rejected(first + ",2", first + ",2 ", first + ",2,", first + ",2,3p", first + ",,2p", first + "\n,2p");
            Scripts.rejected(first + ",+1p", first + ",-1p", first + ",0p", first + ",256p", first + ",//p", first + ",/a");
            Scripts.rejected(first + ",/a\\", first + ",2\n!p", first + ",2 3p", first + ",xp", first + ",:a");
        }
        Scripts.rejected(",2p", ",p", " ,2p", "a,bp");
    }

    private static void negation() {
        Check.sentence("Then, if the char is '!', the command is negated and blanks are skipped.");
        Scripts.accepted(1, "1!p", "$!p", "/a/!p", "1,2!p", "1 !p", "1! p", "1 , 2 ! p", "$ !  p", "/a/,/b/!s/a/b/");
        Scripts.rejected("1!", "1! ", "1,2!", "$!", "/a/!", "1!!p", "1! !p", "1!,2p", "1!2p", "1!\np", "1!;p", "1,!2p");
    }

    private static void negationNeedsAnAddress() {
        Check.sentence("'!' is recognised only after an address.");
        Scripts.rejected("!p", " !p", "! p", "!", "!1p", "p!", "p;!p", "!:a", "!b");
    }

    private static void numbers() {
        Check.sentence("a number, the maximal run of digits there, 1 to 3 digits long, value 1..255 (leading zeros allowed);");
        for (int k = 0; k <= 1100; k++) {
            int want = k >= 1 && k <= 255 ? 1 : StreamEditorX.COMPILE_ERROR;
            Check.due("compile of " + k + "p", Feed.compiled(k + "p"), want);
            Check.due("compile of 1," + k + "p", Feed.compiled("1," + k + "p"), want);
        }
        for (String before : new String[] {"", "1,", "$,", "/a/, "}) {
            for (String good : new String[] {"1", "9", "10", "99", "100", "254", "255", "01", "001", "09", "099", "010"}) {
                Scripts.accepted(1, before + good + "p", before + good + "!p");
            }
            for (String bad : new String[] {"0", "00", "000", "256", "257", "300", "999", "1000", "0000", "0001", "0255"}) {
                Scripts.rejected(before + bad + "p", before + bad + "!p", before + bad);
            }
            Scripts.rejected(before + "99999999999p", before + "4294967297p", before + "1".repeat(100) + "p");
        }
        Scripts.rejected("1".repeat(128), "0".repeat(127) + "1");
        Feed.dueQuiet("001p", "a\nb", "a\n");
        Feed.dueQuiet("010p", "a\n".repeat(9) + "b\nc", "b\n");
    }

    private static void regexAddresses() {
        Check.sentence("or '/', a regex text, '/'.");
        Scripts.accepted(1, "/a/p", "/a/,/b/p", "/\\//p", "/;/p", "/!/p", "/,/p", "/ /p");
        Scripts.rejected("/", "/a", "//p", "/a/,/", "/a/,/b", "/a/,//p", "//,/b/p", "/a**/p", "1,/a**/p", "/a\n/p");
    }

    private static void substitutions() {
        Check.sentence("'s' must be followed at once by '/', a regex text, '/', a replacement text, '/', "
                + "and then at most one 'g' (the g flag).");
        Scripts.accepted(1, "s/a/b/", "s/a//", "s/a/b/g", "s/a/b/ ", "s/a/b/g ", "s/a/b/g;", "1s/a/b/", "s/ / /", "s/g/g/g");
        Scripts.accepted(2, "s/a/b/;g", "s/a/b/\ng", "s/a/b/g;g", "s/;/;/;p", "s/a/b/ ;g");
        Scripts.rejected("s", "s ", "s/", "s/a", "s/a/", "s/a/b", "s//b/", "s///", "s /a/b/", "s|a|b|", "sa/b/", "s,a,b,");
        Scripts.rejected("s/a/b/gg", "s/a/b/ g", "s/a/b/p", "s/a/b/1", "s/a/b/G", "s/a/b/g g", "s/a/b//", "s/a/b/s/a/b/");
        Scripts.rejected("s;p", "s\n/a/b/", "s/a/b/g/", "s/a/b/gp", "s!", "1s", "1s/a/b");
        Scripts.accepted(1, "s/a/" + "b".repeat(123) + "/", "s/a/" + "b".repeat(122) + "/g");
        Scripts.rejected("s/a/" + "b".repeat(124), "s/" + "a".repeat(126), "s/a/" + "b".repeat(121) + "/gg");
    }

    private static void plainVerbs() {
        Check.sentence("'d' 'p' 'N' 'h' 'H' 'g' 'G' 'x' take nothing more.");
        for (String verb : new String[] {"d", "p", "N", "h", "H", "g", "G", "x"}) {
            Scripts.accepted(1, verb, "1" + verb, "1,2!" + verb, "/x/ " + verb, verb + " ", verb + ";", verb + "\n");
            Scripts.rejected(verb + "a", verb + "1", verb + "g", verb + verb, verb + " " + verb, verb + "/a/", verb + "!", verb + "\\");
        }
    }

    private static void labels() {
        Check.sentence("':' (label) must have no address part; blanks are skipped; "
                + "the label is the maximal run of label chars there, 1 to 8 long.");
        Scripts.accepted(1, ":a", ": a", ":   a", ":a ", ":12345678", ":_", ":A_z09", ":abcdefgh ", ": ABCDEFGH", ":________");
        Scripts.rejected(":", ": ", ":;p", ":\na", ": \na", ":123456789", ": 123456789", ":" + "a".repeat(127), ":a b", ":a-", ":-");
        Scripts.rejected("1:a", "$:a", "/a/:a", "1,2:a", "1!:a", "1 :a", "1,2!:a", "$! :a", "::a", ":a:b");
        for (char c = 33; c <= 126; c++) {
            boolean ok = c >= 'A' && c <= 'Z' || c >= 'a' && c <= 'z' || c >= '0' && c <= '9' || c == '_';
            Check.due("compile of :" + c, Feed.compiled(":" + c), ok ? 1 : StreamEditorX.COMPILE_ERROR);
            int behind = ok || c == ';' ? 1 : StreamEditorX.COMPILE_ERROR;
            Check.due("compile of :a" + c, Feed.compiled(":a" + c), behind);
        }
    }

    private static void branches() {
        Check.sentence("'b' (branch) and 't' (test): blanks are skipped; "
                + "the label is the maximal run of label chars there, 0 to 8 long (0 long: no label).");
        for (String verb : new String[] {"b", "t"}) {
            Scripts.accepted(1, verb, verb + " ", verb + ";", verb + "\n", "1" + verb, "$!" + verb, verb + " ".repeat(127));
            Scripts.accepted(2, ":a;" + verb + "a", ":a;" + verb + " a", verb + "a;:a", ":a;" + verb + "   a ", ":p;1" + verb + "p");
            Scripts.accepted(2, ":12345678;" + verb + "12345678", ":abcdefgh;" + verb + " abcdefgh", ":_;" + verb + "_");
            Scripts.accepted(2, verb + "\n:a", verb + ";:a", ":a;" + verb, ":a;" + verb + " ");
            Scripts.rejected(verb + "123456789", ":12345678;" + verb + "123456789", ":23456789;" + verb + "123456789");
            Scripts.rejected(":a;" + verb + "a b", ":a;" + verb + "\na", verb + "-", verb + "!", ":a;" + verb + "a!", verb + ":a");
            Scripts.rejected(verb + " :a", verb + "/a/", verb + ",", verb + "$");
        }
        for (char c = 33; c <= 126; c++) {
            boolean ok = c >= 'A' && c <= 'Z' || c >= 'a' && c <= 'z' || c >= '0' && c <= '9' || c == '_';
            int want = c == ';' ? 1 : StreamEditorX.COMPILE_ERROR;
            Check.due("compile of b" + c, Feed.compiled("b" + c), want);
            Check.due("compile of t" + c, Feed.compiled("t" + c), want);
            Check.due("compile of :" + c + ";b" + c, Feed.compiled(":" + c + ";b" + c), ok ? 2 : StreamEditorX.COMPILE_ERROR);
        }
    }

    private static void otherChars() {
        Check.sentence("Any other char, or the end of the script, is an error.");
        for (String verb : VERBS) {
            Scripts.accepted(1, verb, "1" + verb, "1,2!" + verb, "/x/ " + verb, verb + " ", verb + ";");
        }
        for (char c = 32; c <= 126; c++) {
            boolean known = "dpNhHgGxbt".indexOf(c) >= 0;
            int passed = c == ' ' || c == ';' ? 0 : StreamEditorX.COMPILE_ERROR;
            Check.due("compile of " + c, Feed.compiled("" + c), known ? 1 : passed);
            Check.due("compile of $!" + c, Feed.compiled("$!" + c), known ? 1 : StreamEditorX.COMPILE_ERROR);
        }
        Scripts.rejected("P", "D", "n", "X", "S/a/b/", "q", "=", "{p}", "#p", "\\p", "B", "T", "a", "i", "c", "y/a/b/", "w", "r");
        Scripts.rejected("1", "1!", "1,2", "1 ", "1! ", "1,2 ", "$", "/a/", "/a/!");
    }

    private static void commandEnds() {
        Check.sentence("Blanks are skipped; then the end of the script, ';' or 10 must come.");
        for (String verb : new String[] {"p", "s/a/b/", "s/a/b/g", "b", "t", ":a", "1,2!d"}) {
            Scripts.accepted(1, verb, verb + "   ", verb + ";", verb + "  ;", verb + "\n", verb + " \n");
            Scripts.accepted(2, verb + ";x", verb + "\nx", verb + "  ;  x", verb + "  \n  x");
            Scripts.rejected(verb + "}", verb + "#", verb + ",", verb + "/", verb + " }", verb + "  ,p", verb + "!", verb + "\\");
        }
        Scripts.rejected("pp", "p p", "dp", "p1", "p/a/", "h g", "x:a", ":a:b", "N$", "p:a", "s/a/b/p", "s/a/b/ p");
    }

    private static void tooManyCommands() {
        Check.sentence("Afterwards the script is rejected if it has more than 16 commands,");
        Scripts.accepted(16, "p;".repeat(16), "p;".repeat(15) + "p", "p\n".repeat(16) + " ;", "p;".repeat(14) + ":a;ba");
        Scripts.accepted(16, "b;".repeat(15) + ":a", "1,2!p;".repeat(16), "s/a/b/;".repeat(16));
        Scripts.rejected("p;".repeat(17), "p;".repeat(16) + "p", "p;".repeat(64), "p;".repeat(63) + "p", "b;".repeat(16) + ":a");
        Scripts.rejected("ba;" + "p;".repeat(15) + ":a", ":a;" + "p;".repeat(15) + "ba", "1,2!p;".repeat(17), "s/a/b/;".repeat(17));
    }

    private static void sameLabels() {
        Check.sentence("if two ':' commands have the same label,");
        Scripts.rejected(":a;:a", ":a;p;: a", ":12345678;:12345678", ":a;:b;:a", ":b;:a;:a", ":a;:a;ba", ":a;:a;:a");
        Scripts.rejected(":a;" + "p;".repeat(14) + ":a", "p;".repeat(14) + ":a;:a");
        Scripts.accepted(2, ":a;:b", ":a;ba", ":a;ta");
    }

    private static void missingLabels() {
        Check.sentence("or if a 'b' or 't' names a label that no ':' command has.");
        Scripts.rejected("ba", "ta", ":a;bb", ":a;tb", "ba;bb;:a", "ba;bb;:b", ":b;b;ba", "ba;ba", "ta;ba", "ba;ta", "bp;p");
        Scripts.accepted(2, "ba;:a", "ta;:a", ":a;ba", ":a;ta");
        Scripts.accepted(16, "ba;" + "p;".repeat(14) + ":a", ":a;" + "p;".repeat(14) + "ta");
    }

    private static void commandNumbers() {
        Check.sentence("Commands are numbered 0, 1, .. in script order; a ':' is a command too.");
        Scripts.accepted(1, ":a");
        Scripts.accepted(16, ":a;:b;:c;:d;:e;:f;:g;:h;:i;:j;:k;:l;:m;:n;:o;:p");
        Scripts.rejected(":a;:b;:c;:d;:e;:f;:g;:h;:i;:j;:k;:l;:m;:n;:o;:p;:q");
        Feed.dueQuiet("s/$/1/;s/$/2/;:a;s/$/3/;p", "x", "x123\n");
        Feed.dueQuiet("bc;:a;s/$/1/;bd;:b;s/$/2/;ba;:c;s/$/3/;bb;:d;p", "x", "x321\n");
    }

    private static void equalLabels() {
        Check.sentence("Labels are equal iff they have the same chars in order.");
        Scripts.accepted(2, ":a;:A", ":a;:aa", ":ab;:ba", ":ab;:ac", ":ab;:cb", ":1234567;:12345678", ":0;:00", ":a;:_a");
        Scripts.accepted(3, ":ab;:abc;bab", ":ab;:abc;babc", ":a;ba;ta");
        Scripts.rejected(":a;bA", ":ab;ba", ":a;bab", ":ab;bba", ":ab;bac", ":ab;bcb", ":1234567;b12345678", ":12345678;b1234567");
        Scripts.rejected(":12345678;b12345679", ":12345678;b02345678", ":ab;: ab", ":  ab  ;:ab", ":0;b00");
        Feed.dueQuiet("bab;:a;s/$/1/;:abc;s/$/2/;:ab;p", "x", "x\n");
        Feed.dueQuiet("babc;:a;s/$/1/;:ab;s/$/2/;:abc;p", "x", "x\n");
        Feed.dueQuiet("b  ab ;:aB;s/$/1/;: ab;p", "x", "x\n");
    }

    private static void tablePresence() {
        Check.sentence("`hasTable()` answers true iff a table is present. Nothing changes.");
        StreamEditorX x = new StreamEditorX(0, 16);
        dueTable(x, "nothing", false);
        x.compile();
        dueTable(x, "compile of an empty script", true);
        x.addScriptChar('p');
        dueTable(x, "a char", false);
        x.compile();
        dueTable(x, "compile", true);
        x.addScriptChar(9);
        dueTable(x, "a refused char", true);
        x.addInputChar('a');
        dueTable(x, "an input char", true);
        x.run();
        dueTable(x, "a run", true);
        x.clearInput();
        dueTable(x, "clearInput", true);
        x.addScriptChar('p');
        x.compile();
        dueTable(x, "compile of a wrong script", false);
        x.run();
        dueTable(x, "a run without table", false);
        x.clearScript();
        dueTable(x, "clearScript", false);
        x.compile();
        x.clearScript();
        dueTable(x, "clearScript of an empty script", false);
        String script = ":a;ba";
        StreamEditorX stopped = Feed.editor(0, 16, script, "a");
        Feed.dueRun(stopped, script, StreamEditorX.RUN_OUT_OF_STEPS, "");
        dueTable(stopped, "a run out of steps", true);
        Feed.input(stopped, "a".repeat(64));
        Feed.dueRun(stopped, script, StreamEditorX.RUN_OVERFLOW, "");
        dueTable(stopped, "a run with overflow", true);
    }

    private static void dueTable(StreamEditorX x, String after, boolean want) {
        String before = Feed.results(x);
        Check.due("table after " + after, x.hasTable(), want);
        Check.due("table after hasTable after " + after, x.hasTable(), want);
        Check.due("results after hasTable", Feed.results(x), before);
    }
}
