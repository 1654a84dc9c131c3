/** A small line-oriented stream editor; ../shared/DOC.md says what it promises. */
public final class StreamEditorX {
    public static final int REFUSED = -1;
    public static final int COMPILE_ERROR = -1;
    public static final int RUN_DONE = 0;
    public static final int RUN_NO_TABLE = 1;
    public static final int RUN_OUT_OF_STEPS = 2;
    public static final int RUN_OVERFLOW = 3;
    public static final int SCRIPT_CAP = 128;
    public static final int INPUT_CAP = 128;
    public static final int SPACE_CAP = 64;
    public static final int OUTPUT_CAP = 256;
    public static final int MAX_COMMANDS = 16;
    public static final int MAX_ATOMS = 12;
    public static final int MAX_LABEL = 8;
    public static final int MAX_NUMBER = 255;
    public static final int FUEL_MIN = 16;
    public static final int FUEL_MAX = 2048;

    private static final int NEWLINE = 10;
    private static final int BLANK = 32;
    private static final int LAST_CHAR = 126;
    private static final int BACKSLASH = 92;
    private static final int END_OF_SCRIPT = -1;
    private static final int MAX_DIGITS = 3;

    // Added to an escaped text item, so that it never equals a special char.
    private static final int ESCAPED = 256;

    // Stand where a char would stand, so they lie outside the chars.
    private static final int ANY_CHAR = -1;
    private static final int MATCHED_CHARS = -1;

    // Each command owns three slots: its two addresses and the regex of an s.
    private static final int SLOTS_PER_COMMAND = 3;
    private static final int SECOND_ADDRESS = 1;
    private static final int SOUGHT = 2;
    private static final int SLOT_CAP = 48;
    private static final int ATOM_CAP = 576;

    // An address that is a number is held as that number, 1 or more.
    private static final int NO_ADDRESS = 0;
    private static final int LAST_LINE = -1;
    private static final int REGEX = -2;

    // Line numbers start at 1, so 0 can't be an activation line.
    private static final int INACTIVE = 0;

    private static final int NONE = -1;

    // What a part of a run answers while the run has not ended.
    private static final int GOING = -1;
    private static final int CYCLE_CUT = -2;

    private final boolean quiet;
    private final int fuel;

    private final int[] script = new int[SCRIPT_CAP];
    private int scriptSize;
    private final int[] input = new int[INPUT_CAP];
    private int inputSize;

    // The compiler's place in the script, and the text it read last.
    private int cursor;
    private final int[] items = new int[SCRIPT_CAP];
    private int itemCount;

    // The table, by command number.
    private boolean tablePresent;
    private int commandCount;
    private final int[] verb = new int[MAX_COMMANDS];
    private final boolean[] negated = new boolean[MAX_COMMANDS];
    private final boolean[] everywhere = new boolean[MAX_COMMANDS];
    private final int[] labelStart = new int[MAX_COMMANDS];
    private final int[] labelSize = new int[MAX_COMMANDS];
    private final int[] target = new int[MAX_COMMANDS];
    private final int[] replacementStart = new int[MAX_COMMANDS];
    private final int[] replacementEnd = new int[MAX_COMMANDS];
    private final int[] replacement = new int[SCRIPT_CAP];

    // The table, by slot and by atom.
    private final int[] address = new int[SLOT_CAP];
    private final boolean[] startAnchor = new boolean[SLOT_CAP];
    private final boolean[] endAnchor = new boolean[SLOT_CAP];
    private final int[] atomCount = new int[SLOT_CAP];
    private final int[] atomChar = new int[ATOM_CAP];
    private final boolean[] atomStarred = new boolean[ATOM_CAP];

    // The run.
    private final int[] output = new int[OUTPUT_CAP];
    private int outputSize;
    private final int[] pattern = new int[SPACE_CAP];
    private int patternSize;
    private final int[] hold = new int[SPACE_CAP];
    private int holdSize;
    private int lineNumber;
    private int stepCount;
    private int nextLine;
    private int pointer;
    private boolean substituted;
    private final int[] activationLine = new int[MAX_COMMANDS];
    private final int[] result = new int[SPACE_CAP];
    private int resultSize;

    public StreamEditorX(int quiet, int fuel) {
        this.quiet = quiet > 0;
        this.fuel = fuel < FUEL_MIN ? FUEL_MIN : fuel > FUEL_MAX ? FUEL_MAX : fuel;
    }

    public int addScriptChar(int c) {
        if (!isTextChar(c) || scriptSize >= SCRIPT_CAP) {
            return REFUSED;
        }
        script[scriptSize] = c;
        scriptSize++;
        tablePresent = false;
        return scriptSize;
    }

    public void clearScript() {
        scriptSize = 0;
        tablePresent = false;
    }

    public int addInputChar(int c) {
        if (!isTextChar(c) || inputSize >= INPUT_CAP) {
            return REFUSED;
        }
        input[inputSize] = c;
        inputSize++;
        return inputSize;
    }

    public void clearInput() {
        inputSize = 0;
    }

    public int compile() {
        tablePresent = false;
        commandCount = 0;
        cursor = 0;
        boolean sound = true;
        skipSeparators();
        // One round more than commands are allowed: the last one finds them too many.
        for (int round = 0; round <= MAX_COMMANDS && sound && cursor < scriptSize; round++) {
            sound = commandCount < MAX_COMMANDS && readAddressPart() && readVerb() && readCommandEnd();
            if (sound) {
                commandCount++;
                skipSeparators();
            }
        }
        if (!sound || !labelsDiffer() || !findTargets()) {
            return COMPILE_ERROR;
        }
        tablePresent = true;
        return commandCount;
    }

    public boolean hasTable() {
        return tablePresent;
    }

    public int run() {
        if (!tablePresent) {
            return RUN_NO_TABLE;
        }
        startRun();
        int verdict = GOING;
        // One cycle more than there can be lines: the last one finds them all read.
        for (int cycle = 0; cycle <= INPUT_CAP && verdict == GOING; cycle++) {
            verdict = startCycle();
            // One round more than the fuel allows: the last one finds it used up.
            for (int round = 0; round <= fuel && verdict == GOING && pointer < commandCount; round++) {
                verdict = step();
            }
            if (verdict == GOING && !quiet) {
                verdict = print();
            } else if (verdict == CYCLE_CUT) {
                verdict = GOING;
            }
        }
        return verdict;
    }

    public int outputLength() {
        return outputSize;
    }

    public int outputChar(int i) {
        return charOrRefused(output, outputSize, i);
    }

    public int patternLength() {
        return patternSize;
    }

    public int patternChar(int i) {
        return charOrRefused(pattern, patternSize, i);
    }

    public int holdLength() {
        return holdSize;
    }

    public int holdChar(int i) {
        return charOrRefused(hold, holdSize, i);
    }

    public int linesRead() {
        return lineNumber;
    }

    public int stepsUsed() {
        return stepCount;
    }

    private static boolean isTextChar(int c) {
        return c == NEWLINE || c >= BLANK && c <= LAST_CHAR;
    }

    private static boolean isDigit(int c) {
        return c >= '0' && c <= '9';
    }

    private static boolean isLabelChar(int c) {
        return c >= 'A' && c <= 'Z' || c >= 'a' && c <= 'z' || c >= '0' && c <= '9' || c == '_';
    }

    private static int charOrRefused(int[] chars, int size, int i) {
        return i < 0 || i >= size ? REFUSED : chars[i];
    }

    private static void copyChars(int[] from, int fromIndex, int[] to, int toIndex, int count) {
        for (int n = 0; n < count; n++) {
            to[toIndex + n] = from[fromIndex + n];
        }
    }

    // ---- The compiler ----

    private int peek() {
        return cursor < scriptSize ? script[cursor] : END_OF_SCRIPT;
    }

    private int take() {
        int c = cursor < scriptSize ? script[cursor] : END_OF_SCRIPT;
        cursor++;
        return c;
    }

    private void skipBlanks() {
        while (cursor < scriptSize && script[cursor] == BLANK) {
            cursor++;
        }
    }

    private void skipSeparators() {
        while (cursor < scriptSize
                && (script[cursor] == BLANK || script[cursor] == ';' || script[cursor] == NEWLINE)) {
            cursor++;
        }
    }

    private boolean readAddressPart() {
        int first = commandCount * SLOTS_PER_COMMAND;
        int second = first + SECOND_ADDRESS;
        address[first] = NO_ADDRESS;
        address[second] = NO_ADDRESS;
        negated[commandCount] = false;
        int c = peek();
        if (!isDigit(c) && c != '$' && c != '/') {
            return true;
        }
        if (!readAddress(first)) {
            return false;
        }
        skipBlanks();
        if (peek() == ',') {
            cursor++;
            skipBlanks();
            if (!readAddress(second)) {
                return false;
            }
            skipBlanks();
        }
        if (peek() == '!') {
            cursor++;
            negated[commandCount] = true;
            skipBlanks();
        }
        return true;
    }

    private boolean readAddress(int slot) {
        int c = peek();
        if (isDigit(c)) {
            return readNumber(slot);
        }
        cursor++;
        if (c == '$') {
            address[slot] = LAST_LINE;
            return true;
        }
        address[slot] = REGEX;
        return c == '/' && readRegex(slot);
    }

    private boolean readNumber(int slot) {
        int value = 0;
        int digits = 0;
        int c = peek();
        // One digit too many is read, to be found.
        while (digits <= MAX_DIGITS && isDigit(c)) {
            value = value * 10 + c - '0';
            digits++;
            cursor++;
            c = peek();
        }
        address[slot] = value;
        return digits <= MAX_DIGITS && value >= 1 && value <= MAX_NUMBER;
    }

    private boolean readVerb() {
        int c = take();
        verb[commandCount] = c;
        switch (c) {
            case 's':
                return readSubstitution();
            case 'd':
            case 'p':
            case 'N':
            case 'h':
            case 'H':
            case 'g':
            case 'G':
            case 'x':
                return true;
            case ':':
                return address[commandCount * SLOTS_PER_COMMAND] == NO_ADDRESS && readLabel(1);
            case 'b':
            case 't':
                return readLabel(0);
            default:
                return false;
        }
    }

    private boolean readCommandEnd() {
        skipBlanks();
        int c = peek();
        return c == END_OF_SCRIPT || c == ';' || c == NEWLINE;
    }

    private boolean readSubstitution() {
        if (take() != '/'
                || !readRegex(commandCount * SLOTS_PER_COMMAND + SOUGHT)
                || !readReplacement()) {
            return false;
        }
        everywhere[commandCount] = peek() == 'g';
        if (everywhere[commandCount]) {
            cursor++;
        }
        return true;
    }

    private boolean readReplacement() {
        // A text has no more items than chars, so its place in the script is free in the pool too.
        int start = cursor;
        if (!readText()) {
            return false;
        }
        for (int n = 0; n < itemCount; n++) {
            replacement[start + n] = items[n] == '&' ? MATCHED_CHARS : items[n] % ESCAPED;
        }
        replacementStart[commandCount] = start;
        replacementEnd[commandCount] = start + itemCount;
        return true;
    }

    private boolean readText() {
        itemCount = 0;
        while (itemCount < SCRIPT_CAP) {
            int c = take();
            if (c == '/') {
                return true;
            }
            int mark = 0;
            if (c == BACKSLASH) {
                mark = ESCAPED;
                c = take();
            }
            if (c == END_OF_SCRIPT || c == NEWLINE) {
                return false;
            }
            items[itemCount] = mark == ESCAPED && c == 'n' ? NEWLINE + ESCAPED : c + mark;
            itemCount++;
        }
        return false;
    }

    private boolean readRegex(int slot) {
        if (!readText() || itemCount == 0) {
            return false;
        }
        int from = 0;
        int to = itemCount;
        startAnchor[slot] = items[0] == '^';
        if (startAnchor[slot]) {
            from++;
        }
        endAnchor[slot] = items[to - 1] == '$';
        if (endAnchor[slot]) {
            to--;
        }
        atomCount[slot] = 0;
        for (int n = from; n < to; n++) {
            if (!addItem(slot, items[n])) {
                return false;
            }
        }
        return true;
    }

    private boolean addItem(int slot, int item) {
        int count = atomCount[slot];
        int next = slot * MAX_ATOMS + count;
        if (item == '*' && count > 0) {
            boolean again = atomStarred[next - 1];
            atomStarred[next - 1] = true;
            return !again;
        }
        if (count >= MAX_ATOMS) {
            return false;
        }
        atomChar[next] = item == '.' ? ANY_CHAR : item % ESCAPED;
        atomStarred[next] = false;
        atomCount[slot] = count + 1;
        return true;
    }

    private boolean readLabel(int least) {
        skipBlanks();
        labelStart[commandCount] = cursor;
        int size = 0;
        int c = peek();
        // One char too many is read, to be found.
        while (size <= MAX_LABEL && isLabelChar(c)) {
            size++;
            cursor++;
            c = peek();
        }
        labelSize[commandCount] = size;
        return size >= least && size <= MAX_LABEL;
    }

    private boolean sameLabel(int a, int b) {
        if (labelSize[a] != labelSize[b]) {
            return false;
        }
        for (int n = 0; n < labelSize[a]; n++) {
            if (script[labelStart[a] + n] != script[labelStart[b] + n]) {
                return false;
            }
        }
        return true;
    }

    /** The first ':' command, from the one given, with the label of command k; NONE if there is none. */
    private int findLabel(int k, int from) {
        for (int n = from; n < commandCount; n++) {
            if (verb[n] == ':' && sameLabel(k, n)) {
                return n;
            }
        }
        return NONE;
    }

    private boolean labelsDiffer() {
        for (int k = 0; k < commandCount; k++) {
            if (verb[k] == ':' && findLabel(k, k + 1) != NONE) {
                return false;
            }
        }
        return true;
    }

    private boolean findTargets() {
        for (int k = 0; k < commandCount; k++) {
            if (verb[k] == 'b' || verb[k] == 't') {
                target[k] = labelSize[k] == 0 ? commandCount : findLabel(k, 0);
                if (target[k] == NONE) {
                    return false;
                }
            }
        }
        return true;
    }

    // ---- The run ----

    private void startRun() {
        outputSize = 0;
        patternSize = 0;
        holdSize = 0;
        lineNumber = 0;
        stepCount = 0;
        nextLine = 0;
        substituted = false;
        for (int k = 0; k < MAX_COMMANDS; k++) {
            activationLine[k] = INACTIVE;
        }
    }

    private boolean allLinesRead() {
        return nextLine >= inputSize;
    }

    private int startCycle() {
        if (allLinesRead()) {
            return RUN_DONE;
        }
        substituted = false;
        pointer = 0;
        return readLine(0);
    }

    /** Puts the next line into the pattern space from the place given on, if it fits there. */
    private int readLine(int place) {
        int end = nextLine;
        while (end < inputSize && input[end] != NEWLINE) {
            end++;
        }
        int size = end - nextLine;
        if (place + size > SPACE_CAP) {
            return RUN_OVERFLOW;
        }
        copyChars(input, nextLine, pattern, place, size);
        patternSize = place + size;
        nextLine = end + 1;
        lineNumber++;
        return GOING;
    }

    private int step() {
        if (stepCount >= fuel) {
            return RUN_OUT_OF_STEPS;
        }
        stepCount++;
        int k = pointer;
        int first = k * SLOTS_PER_COMMAND;
        boolean isRange = address[first + SECOND_ADDRESS] != NO_ADDRESS;
        boolean selected = isRange ? rangeSelects(k) : addressHolds(first);
        pointer = k + 1;
        return selected != negated[k] ? act(k) : GOING;
    }

    private boolean addressHolds(int slot) {
        switch (address[slot]) {
            case NO_ADDRESS:
                return true;
            case LAST_LINE:
                return allLinesRead();
            case REGEX:
                return findMatch(slot, 0) != NONE;
            default:
                return address[slot] == lineNumber;
        }
    }

    private boolean rangeSelects(int k) {
        int first = k * SLOTS_PER_COMMAND;
        int second = first + SECOND_ADDRESS;
        // A number ends a range also where its line has been passed.
        boolean passed = address[second] > 0 && address[second] <= lineNumber;
        if (activationLine[k] == INACTIVE) {
            boolean starts = addressHolds(first);
            if (starts && !passed) {
                activationLine[k] = lineNumber;
            }
            return starts;
        }
        if (lineNumber > activationLine[k] && (passed || addressHolds(second))) {
            activationLine[k] = INACTIVE;
        }
        return true;
    }

    private int act(int k) {
        switch (verb[k]) {
            case 's':
                return substitute(k);
            case 'd':
                patternSize = 0;
                return CYCLE_CUT;
            case 'p':
                return print();
            case 'N':
                return joinNextLine();
            case 'h':
                copyChars(pattern, 0, hold, 0, patternSize);
                holdSize = patternSize;
                return GOING;
            case 'g':
                copyChars(hold, 0, pattern, 0, holdSize);
                patternSize = holdSize;
                return GOING;
            case 'H':
                return joinToHold();
            case 'G':
                return joinToPattern();
            case 'x':
                swapSpaces();
                return GOING;
            case 'b':
                pointer = target[k];
                return GOING;
            case 't':
                if (substituted) {
                    substituted = false;
                    pointer = target[k];
                }
                return GOING;
            default:
                return GOING;
        }
    }

    private int print() {
        if (outputSize + patternSize + 1 > OUTPUT_CAP) {
            return RUN_OVERFLOW;
        }
        copyChars(pattern, 0, output, outputSize, patternSize);
        outputSize += patternSize;
        output[outputSize] = NEWLINE;
        outputSize++;
        return GOING;
    }

    private int joinNextLine() {
        if (allLinesRead()) {
            return quiet || print() == GOING ? RUN_DONE : RUN_OVERFLOW;
        }
        int seam = patternSize;
        int verdict = readLine(seam + 1);
        if (verdict == GOING) {
            pattern[seam] = NEWLINE;
        }
        return verdict;
    }

    private int joinToHold() {
        if (holdSize + 1 + patternSize > SPACE_CAP) {
            return RUN_OVERFLOW;
        }
        hold[holdSize] = NEWLINE;
        copyChars(pattern, 0, hold, holdSize + 1, patternSize);
        holdSize += 1 + patternSize;
        return GOING;
    }

    private int joinToPattern() {
        if (patternSize + 1 + holdSize > SPACE_CAP) {
            return RUN_OVERFLOW;
        }
        pattern[patternSize] = NEWLINE;
        copyChars(hold, 0, pattern, patternSize + 1, holdSize);
        patternSize += 1 + holdSize;
        return GOING;
    }

    private void swapSpaces() {
        for (int i = 0; i < SPACE_CAP; i++) {
            int c = pattern[i];
            pattern[i] = hold[i];
            hold[i] = c;
        }
        int size = patternSize;
        patternSize = holdSize;
        holdSize = size;
    }

    private int substitute(int k) {
        int slot = k * SLOTS_PER_COMMAND + SOUGHT;
        int place = 0;
        boolean changed = false;
        resultSize = 0;
        int start = findMatch(slot, 0);
        // Each round moves the place on by 1 or more, and it stops past the pattern space's end.
        for (int round = 0; round <= SPACE_CAP && start != NONE; round++) {
            int end = longestMatchEnd(slot, start);
            changed = true;
            appendPatternPart(place, start);
            appendReplacement(k, start, end);
            place = end;
            if (end == start) {
                // An empty match takes the char behind it along, or it would be found again.
                appendPatternPart(start, start < patternSize ? start + 1 : start);
                place = start + 1;
            }
            start = everywhere[k] ? findMatch(slot, place) : NONE;
        }
        if (!changed) {
            return GOING;
        }
        appendPatternPart(place, patternSize);
        if (resultSize > SPACE_CAP) {
            return RUN_OVERFLOW;
        }
        copyChars(result, 0, pattern, 0, resultSize);
        patternSize = resultSize;
        substituted = true;
        return GOING;
    }

    private void appendPatternPart(int from, int to) {
        for (int i = from; i < to; i++) {
            appendToResult(pattern[i]);
        }
    }

    private void appendReplacement(int k, int start, int end) {
        for (int n = replacementStart[k]; n < replacementEnd[k]; n++) {
            if (replacement[n] == MATCHED_CHARS) {
                for (int i = start; i < end; i++) {
                    appendToResult(pattern[i]);
                }
            } else {
                appendToResult(replacement[n]);
            }
        }
    }

    private void appendToResult(int c) {
        // What is too long is counted on but not kept: only its length is asked for.
        if (resultSize < SPACE_CAP) {
            result[resultSize] = c;
        }
        resultSize++;
    }

    /** Where the first match from the place given starts; NONE if there is none. */
    private int findMatch(int slot, int from) {
        int last = startAnchor[slot] ? 0 : patternSize;
        for (int start = from; start <= last; start++) {
            if (longestMatchEnd(slot, start) != NONE) {
                return start;
            }
        }
        return NONE;
    }

    /** The greatest end of a match that starts at the place given; NONE if there is none. */
    private int longestMatchEnd(int slot, int start) {
        int atoms = atomCount[slot];
        int firstAtom = slot * MAX_ATOMS;
        int longest = NONE;
        // Bit n of places: the chars so far can be cut into pieces for the first n atoms.
        int places = 1;
        for (int i = start; i <= patternSize; i++) {
            int next = 0;
            for (int n = 0; n < atoms; n++) {
                if ((places >> n & 1) == 1) {
                    int atom = firstAtom + n;
                    if (atomStarred[atom]) {
                        places |= 2 << n;
                    }
                    if (i < patternSize && (atomChar[atom] == ANY_CHAR || atomChar[atom] == pattern[i])) {
                        next |= atomStarred[atom] ? 1 << n : 2 << n;
                    }
                }
            }
            if ((places >> atoms & 1) == 1 && (!endAnchor[slot] || i == patternSize)) {
                longest = i;
            }
            places = next;
        }
        return longest;
    }
}
