/** Checks what compile() answers for scripts, each also with other commands around it and at the end of a full script. */
final class Scripts {
    private static final String BEFORE = "p;";
    private static final String BEHIND = "\np";

    private Scripts() {
    }

    static void accepted(int commands, String... scripts) {
        int oneMore = commands < StreamEditorX.MAX_COMMANDS ? commands + 1 : StreamEditorX.COMPILE_ERROR;
        for (String script : scripts) {
            dueAll(script, commands, oneMore);
        }
    }

    static void rejected(String... scripts) {
        for (String script : scripts) {
            dueAll(script, StreamEditorX.COMPILE_ERROR, StreamEditorX.COMPILE_ERROR);
        }
    }

    private static void dueAll(String script, int alone, int withOneMore) {
        String blanks = " ".repeat(StreamEditorX.SCRIPT_CAP - script.length());
        due(script, alone);
        due(blanks + script, alone);
        due(script + blanks, alone);
        due(BEFORE + script, withOneMore);
        due(script + BEHIND, withOneMore);
    }

    private static void due(String script, int want) {
        if (script.length() > StreamEditorX.SCRIPT_CAP) {
            return;
        }
        StreamEditorX x = Feed.editor(script, "");
        Check.due("compile of " + script, x.compile(), want);
        Check.due("table of " + script, x.hasTable(), want != StreamEditorX.COMPILE_ERROR);
    }
}
