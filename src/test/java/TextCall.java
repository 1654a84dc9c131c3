/** A call that adds a char to a text, and the sentences that promises 2 and 4 have in common for it. */
interface TextCall {
    int CAP = 128;
    int[] NO_TEXT_CHARS = {Integer.MIN_VALUE, Integer.MIN_VALUE + 10, -65536 + 'p', -256 + 'p', -32, -10, -1, 0, 1, 9, 11,
        13, 31, 127, 128, 255, 256 + 10, 256 + 'p', 65536 + 10, 65536 + 'p', Integer.MAX_VALUE};
    int[] EDGE_CHARS = {10, 32, 33, 125, 126};

    int add(StreamEditorX x, int c);

    /** Each code near the text chars, and codes that would be text chars if a part of the int were lost. */
    static void dueCodes(String name, TextCall call) {
        for (int c : NO_TEXT_CHARS) {
            Check.due(name + " " + c, call.add(new StreamEditorX(0, 16), c), StreamEditorX.REFUSED);
        }
        for (int c : EDGE_CHARS) {
            Check.due(name + " " + c, call.add(new StreamEditorX(0, 16), c), 1);
        }
        for (int c = -300; c <= 400; c++) {
            boolean taken = c == 10 || c >= 32 && c <= 126;
            Check.due(name + " " + c, call.add(new StreamEditorX(0, 16), c), taken ? 1 : StreamEditorX.REFUSED);
        }
    }

    /** The answers from the first char to the one that fills the text, refused ones not counting. */
    static void dueLengths(String name, StreamEditorX x, TextCall call) {
        for (int n = 1; n <= CAP; n++) {
            Check.due(name + ", a wrong char before char " + n, call.add(x, 127), StreamEditorX.REFUSED);
            Check.due(name + ", char " + n, call.add(x, n % 2 == 0 ? 10 : ' '), n);
        }
    }

    /** A full text refuses each char, of whatever code. */
    static void dueFull(String name, StreamEditorX x, TextCall call) {
        for (int c = -1; c <= 128; c++) {
            Check.due(name + " when full, " + c, call.add(x, c), StreamEditorX.REFUSED);
        }
        Check.due(name + " when full, the least int", call.add(x, Integer.MIN_VALUE), StreamEditorX.REFUSED);
        Check.due(name + " when full, the greatest int", call.add(x, Integer.MAX_VALUE), StreamEditorX.REFUSED);
    }
}
