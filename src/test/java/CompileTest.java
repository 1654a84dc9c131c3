/** Promise 6, and promise 7 with it. */
public final class CompileTest {
    private static final String[] VERBS = {"d", "p", "N", "h", "H", "g", "G", "x", "b", "t", "s/a/b/"};

    public static void main(String[] args) {
        separators();
        addresses();
        numbers();
        verbs();
        substitutions();
        labels();
        commandEnds();
        commandCounts();
        texts();
        regexes();
        fullScripts();
        tableAndOtherState();
        Check.finish();
    }

    private static void accepted(int commands, String... scripts) {
        for (String script : scripts) {
            Check.due("compile of " + script, Feed.compiled(script), commands);
        }
    }

    private static void rejected(String... scripts) {
        accepted(StreamEditorX.COMPILE_ERROR, scripts);
    }

    private static void separators() {
        accepted(0, "", " ", ";", "\n", " ;\n; \n");
        accepted(1, "p", " p", ";p", "\np", "p ", "p;", "p\n", " ;\n p \n; ");
        accepted(2, "p;p", "p\np", "p ; p", "p;;p", "p\n\n ;p");
    }

    private static void addresses() {
        accepted(1, "1p", "$p", "/a/p", "1,2p", "1,$p", "$,1p", "/a/,/b/p", "/a/,3p", "3,/a/p", "$,$p");
        accepted(1, "1 p", "1 , 2 p", "1,  2p", "1  ,2p", "$ !p", "1! p", "1 , 2 ! p", "/a/!p", "9,1p");
        rejected("1,p", "1,", "1, ", "1,!p", ",2p", ",p", "!p", " !p", "1!!p", "1! !p", "1!,2p", "1!2p");
        rejected("1", "1 ", "$", "/a/", "/a", "/", "1,2", "1,2!", "1!", "1;p", "1\np", "1,2,3p", "1 2p", "$$p");
        rejected("1,\n2p", "1\n,2p", "1,2\n!p", "1!\np", "-1p", "+1p", "1,+1p", "a,bp", "1,;p");
    }

    private static void numbers() {
        for (int k = 0; k <= 1100; k++) {
            int want = k >= 1 && k <= 255 ? 1 : StreamEditorX.COMPILE_ERROR;
            Check.due("compile of " + k + "p", Feed.compiled(k + "p"), want);
            Check.due("compile of 1," + k + "p", Feed.compiled("1," + k + "p"), want);
        }
        accepted(1, "01p", "001p", "099p", "1,01p", "1,009p", "010,020p");
        rejected("0p", "00p", "000p", "0001p", "0000p", "0255p", "1,0p", "1,0001p", "99999999999p", "4294967297p");
    }

    private static void verbs() {
        for (String verb : VERBS) {
            accepted(1, verb, "1" + verb, "1,2!" + verb, "/x/ " + verb, verb + " ", verb + ";");
        }
        for (char c = 32; c <= 126; c++) {
            boolean known = "dpNhHgGxbt ;".indexOf(c) >= 0;
            int commands = c == ' ' || c == ';' ? 0 : 1;
            accepted(known ? commands : StreamEditorX.COMPILE_ERROR, "" + c);
        }
        rejected("P", "D", "n", "X", "S/a/b/", "q", "=", "{p}", "#p", "\\p", "1;", "1", "1!");
    }

    private static void substitutions() {
        accepted(1, "s/a/b/", "s/a//", "s/a/b/g", "s/a/b/ ", "s/a/b/g ", "s/a/b/g;", "1s/a/b/", "s/ / /");
        accepted(2, "s/a/b/;g", "s/a/b/\ng", "s/a/b/g;g", "s/;/;/;p");
        rejected("s", "s/", "s/a", "s/a/", "s/a/b", "s//b/", "s///", "s /a/b/", "s|a|b|", "sa/b/", "s,a,b,");
        rejected("s/a/b/gg", "s/a/b/ g", "s/a/b/p", "s/a/b/1", "s/a/b/G", "s/a/b/g g", "s/a/b//", "s/a/b/s/a/b/");
    }

    private static void labels() {
        accepted(1, ":a", ": a", ":   a", ":a ", ":12345678", ":_", ":A_z09", "b", "t", "b ", "t ", "b;", "t\n");
        accepted(2, ":a;ba", ":a;b a", "ba;:a", ":a;ta", ":a;t  a ", ":12345678;b12345678", ":a;:b", ":a;:A", ":a;:aa");
        accepted(2, "b\n:a", ":p;bp", "1bp;:p", "$!ta;:a", ":p\np", ":_;b_", ":0;t0");
        accepted(3, ":ab;:abc;bab", ":ab;:abc;babc", ":a;ba;ta", "b;t;p");
        rejected(":", ": ", ":;p", ":\na", ":123456789", "1:a", "$:a", "/a/:a", "1,2:a", "1!:a", ":a b", ":a-", ":-");
        rejected(":a;:a", ":a;p;: a", ":12345678;:12345678", ":a;:b;:a", ":a;:a;ba");
        rejected("ba", "ta", ":a;bb", ":a;tb", ":a;bA", ":ab;ba", ":a;bab", "b123456789", ":12345678;b123456789");
        rejected("b a b;:a", ":a;ba b", ":a;b\na", "b-", "t!", ":a;ba!", ":123456789;b123456789", "b:a", ":b;b;ba");
        for (char c = 33; c <= 126; c++) {
            boolean ok = Character.isLetterOrDigit(c) || c == '_';
            int label = c == ';' ? StreamEditorX.COMPILE_ERROR : ok ? 1 : StreamEditorX.COMPILE_ERROR;
            Check.due("compile of :" + c, Feed.compiled(":" + c), label);
            int branch = c == ';' ? 1 : StreamEditorX.COMPILE_ERROR;
            Check.due("compile of b" + c, Feed.compiled("b" + c), branch);
            Check.due("compile of :" + c + ";b" + c, Feed.compiled(":" + c + ";b" + c), ok ? 2 : -1);
        }
    }

    private static void commandEnds() {
        rejected("pp", "p p", "dp", "p}", "p#", "p,", "p1", "p/a/", "p!", "h g", "x:a", ":a:b", "N$", "p\\");
        accepted(2, "p   ;p", "p   \np", "p;\n p");
    }

    private static void commandCounts() {
        accepted(16, "p;".repeat(16), "p;".repeat(15) + "p", "p\n".repeat(16) + " ;", "p;".repeat(14) + ":a;ba");
        rejected("p;".repeat(17), "p;".repeat(16) + "p", "p;".repeat(64), "b;".repeat(16) + ":a", "p;".repeat(16) + "?");
        accepted(16, "b;".repeat(15) + ":a");
    }

    private static void texts() {
        accepted(1, "/\\//p", "s/\\//\\//", "/\\\\/p", "s/a/\\\\/", "/\\n/p", "s/a/\\n/", "/\\a/p", "/\\ /p", "s/a/\\&/");
        rejected("/a\nb/p", "s/a\n/b/", "s/a/\n/", "/\\\n/p", "s/a/\\\n/", "s/a/b\\\n/", "/\n/p");
        rejected("/a\\", "s/a\\", "s/a/\\", "s/a/b\\", "/\\/p", "s/a/b\\/", "s/a\\/b/", "/a", "1,/a", "1,/a\\", "1,/a\n/p");
        accepted(1, "1,/\\//p", "s/a\\/b/c/", "s/a/b\\/c/g", "/;/p", "/!/p", "s/,/!/");
    }

    private static void regexes() {
        accepted(1, "/^/p", "/$/p", "/^$/p", "/*/p", "/^*/p", "/**/p", "/^**/p", "/a*/p", "/.*/p", "/a*b*/p", "/$*/p");
        accepted(1, "/\\**/p", "/a\\**/p", "/a*\\*/p", "/a*\\**/p", "/a*$/p", "/^^/p", "/$$/p", "/a^/p", "/^a$b$/p");
        accepted(1, "/^*$/p", "/\\^/p", "/\\$/p", "/^$*/p", "/[a]/p", "/\\n*/p");
        rejected("//p", "1,//p", "s//a/", "/a**/p", "/.**/p", "/***/p", "/^***/p", "/\\***/p", "/a*b**/p", "/\\n**/p");
        rejected("/a***/p", "/$**/p", "s/a**/b/", "1,/a**/p");
        accepted(1, "/123456789012/p", "/^123456789012$/p", "/1*2*3*4*5*6*7*8*9*0*1*2*/p", "/............/p");
        accepted(1, "/\\.\\.\\.\\.\\.\\.\\.\\.\\.\\.\\.\\./p", "/*12345678901/p", "s/123456789012/x/", "1,/123456789012/p");
        rejected("/1234567890123/p", "/^1234567890123$/p", "/1*2*3*4*5*6*7*8*9*0*1*2*3*/p", "/............./p");
        rejected("/*123456789012/p", "/^^12345678901*2/p", "s/1234567890123/x/", "1,/1234567890123/p", "/123456789012\\n/p");
        rejected("/$123456789012/p", "/123456789012\\$/p", "/\\^123456789012/p");
    }

    private static void tableAndOtherState() {
        StreamEditorX x = Feed.editor("p;h", "a");
        Check.due("no table before compile", x.hasTable(), false);
        Check.due("compile", x.compile(), 2);
        Check.due("table after compile", x.hasTable(), true);
        Check.due("hasTable changes nothing", x.hasTable(), true);
        x.run();
        Check.due("table after a run", x.hasTable(), true);
        String before = Feed.results(x);
        Check.due("compile again", x.compile(), 2);
        Check.due("results after compile", Feed.results(x), before);
        x.addScriptChar('?');
        Check.due("a wrong script", x.compile(), StreamEditorX.COMPILE_ERROR);
        Check.due("no table after a wrong script", x.hasTable(), false);
        Check.due("no run after a wrong script", x.run(), StreamEditorX.RUN_NO_TABLE);
        Check.due("results after a wrong script", Feed.results(x), before);
        Check.due("the wrong script stays", x.addScriptChar('?'), 5);
        Check.due("the wrong script stays wrong", x.compile(), StreamEditorX.COMPILE_ERROR);
        x.clearScript();
        Check.due("no table after clearScript", x.hasTable(), false);
        Check.due("an empty script", x.compile(), 0);
        Check.due("a table of no commands", x.hasTable(), true);
        Check.due("its run", x.run(), StreamEditorX.RUN_DONE);
        Check.due("its output", Feed.output(x), "a\n");
        aNewTableForgetsTheOldOne();
    }

    private static void aNewTableForgetsTheOldOne() {
        StreamEditorX x = Feed.editor("1,2!s/^a*$/[&]/g", "aa\naa\nab");
        x.compile();
        x.run();
        dueNewOutput(x, "s/a/b/", "ba\nba\nbb\n");
        dueNewOutput(x, "p", "aa\naa\naa\naa\nab\nab\n");
        dueNewOutput(x, "1,3d", "");
        dueNewOutput(x, "1d", "aa\nab\n");
        dueNewOutput(x, "s/xb*a*/y/;:abc;b", "aa\naa\nab\n");
        dueNewOutput(x, "s/a/y/", "ya\nya\nyb\n");
        dueNewOutput(x, "s/./y/", "ya\nya\nyb\n");
        dueNewRejection(x, "s/a/b/", "s/a/b");
        dueNewRejection(x, "/a/p", "/a");
        dueNewRejection(x, ":a;ba", ":");
        dueNewRejection(x, "1p", "1");
        dueNewRejection(x, "1,2p", "1,");
    }

    private static void dueNewOutput(StreamEditorX x, String script, String want) {
        x.clearScript();
        Feed.script(x, script);
        Feed.dueRun(x, script, StreamEditorX.RUN_DONE, want);
    }

    /** The chars of the longer script must not be seen behind the end of the shorter one. */
    private static void dueNewRejection(StreamEditorX x, String longer, String shorter) {
        x.clearScript();
        Feed.script(x, longer);
        Check.due("compile of " + longer + " is accepted", x.compile() > 0, true);
        x.clearScript();
        Feed.script(x, shorter);
        Check.due("compile of " + shorter, x.compile(), StreamEditorX.COMPILE_ERROR);
    }

    /** Scripts that fill their array, so that a look behind their end would leave it. */
    private static void fullScripts() {
        for (String end : new String[] {"p", "p ", "1,2!p", "s/a/b/", "s/a/b/g", ":a", ": a ", "b", "t ", "/a/ d"}) {
            accepted(1, " ".repeat(128 - end.length()) + end);
        }
        for (String end : new String[] {"1", "1 ", "1,", "1, ", "1,2", "/a", "/a/", "/\\", "s", "s/", "s/a/b", ":", ": ", "ba"}) {
            rejected(" ".repeat(128 - end.length()) + end);
        }
        accepted(1, "s/a/" + "b".repeat(123) + "/", "b" + " ".repeat(127), "p" + ";".repeat(127));
        rejected("s/a/" + "b".repeat(124), "/" + "a".repeat(127), "1".repeat(128), ":" + "a".repeat(127));
    }
}
