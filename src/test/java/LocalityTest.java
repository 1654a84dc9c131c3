import java.util.ArrayList;
import java.util.Collections;
import java.util.List;
import java.util.Random;

/** Promise 8, line locality: such a script does to each line what it does to that line alone. */
public final class LocalityTest {
    private static final int ROUNDS = 20000;
    private static final String[] ADDRESSES = {"", "", "/a/", "/^b*$/!", "/a.*b/ ", "/$/!", "/^c/", "/ab*a/!"};
    private static final String[] VERBS = {"d", "p", "s/a/b/", "s/b*/&c/g", "s/^.//", "s/a*$/-/", "s/./&&/g", "s/c/\\n/"};

    // A fixed seed, so that each run of the test asks the same.
    private static final Random RANDOM = new Random(12);
    private static int checked = 0;

    public static void main(String[] args) {
        edges();
        Check.sentence("its output is exactly the concatenation, in order j = 1..k, of those outputs.");
        checked = 0;
        for (int n = 0; n < ROUNDS; n++) {
            round();
        }
        System.out.println(checked + " of " + ROUNDS + " rounds met the condition");
        Check.due("many rounds met the condition", checked > ROUNDS / 4, true);
        Check.finish();
    }

    private static void edges() {
        Check.sentence("the sum of those output lengths is at most 256, and the clamped fuel is at least c times k,");
        String line = "a".repeat(15);
        // 4 times 4 commands are the least fuel, and 16 times 16 chars the whole output.
        dueMet(1, 16, "p;p;p;p", 4, List.of(line, line, line, line), true);
        dueMet(1, Integer.MIN_VALUE, "p;p;p;p", 4, List.of(line, line, line, line), true);
        dueMet(1, 16, "p;p;p;p", 4, List.of(line, line, line, line + "a"), false);
        dueMet(1, 16, "p;p;p;p", 4, List.of(line, line, line, line, ""), false);
        dueMet(0, 2048, "", 0, List.of("a".repeat(64), "a".repeat(63)), true);
        dueMet(0, 2048, "", 0, List.of("a".repeat(64), "a".repeat(65)), false);
        dueMet(0, 16, "/a/!d;/b/s/a/b/g", 2, List.of("ab", "b", "", "a", "ba", "bb", "", "aabb"), true);
        dueMet(0, 16, "/a/!d;/b/s/a/b/g", 2, List.of("ab", "b", "", "a", "ba", "bb", "", "aabb", "b"), false);
        dueMet(0, 16, "p", 1, List.of(), true);
        dueMet(1, 2048, "/b/p;".repeat(16), 16, Collections.nCopies(128, ""), true);
        dueMet(1, 2047, "/b/p;".repeat(16), 16, Collections.nCopies(128, ""), false);
    }

    private static void dueMet(int quiet, int fuel, String script, int commands, List<String> lines, boolean want) {
        int before = checked;
        compare(quiet, fuel, script, commands, lines);
        Check.due("the condition is met by " + script + " on " + lines, checked == before + 1, want);
    }

    private static void round() {
        int commands = 1 + RANDOM.nextInt(4);
        StringBuilder script = new StringBuilder();
        for (int n = 0; n < commands; n++) {
            script.append(ADDRESSES[RANDOM.nextInt(ADDRESSES.length)]);
            script.append(VERBS[RANDOM.nextInt(VERBS.length)]).append(';');
        }
        List<String> lines = new ArrayList<>();
        int count = RANDOM.nextInt(9);
        for (int n = 0; n < count; n++) {
            lines.add(line());
        }
        compare(RANDOM.nextInt(2), 16 + RANDOM.nextInt(40), script.toString(), commands, lines);
    }

    private static String line() {
        StringBuilder line = new StringBuilder();
        int size = RANDOM.nextInt(12);
        for (int n = 0; n < size; n++) {
            line.append("abc".charAt(RANDOM.nextInt(3)));
        }
        return line.toString();
    }

    private static void compare(int quiet, int fuel, String script, int commands, List<String> lines) {
        StringBuilder want = new StringBuilder();
        for (String line : lines) {
            StreamEditorX alone = Feed.editor(quiet, fuel, script, line + "\n");
            alone.compile();
            if (alone.run() != StreamEditorX.RUN_DONE) {
                return;
            }
            want.append(Feed.output(alone));
        }
        int clamped = Math.max(StreamEditorX.FUEL_MIN, Math.min(StreamEditorX.FUEL_MAX, fuel));
        if (want.length() > StreamEditorX.OUTPUT_CAP || clamped < commands * lines.size()) {
            return;
        }
        checked++;
        boolean lastIsEmpty = !lines.isEmpty() && lines.get(lines.size() - 1).isEmpty();
        String input = String.join("\n", lines) + (lastIsEmpty || RANDOM.nextBoolean() && !lines.isEmpty() ? "\n" : "");
        StreamEditorX x = Feed.editor(quiet, fuel, script, input);
        Check.due("compile of " + script, x.compile(), commands);
        Check.due("run of " + script + " on " + input, x.run(), StreamEditorX.RUN_DONE);
        Check.due("lines of " + script + " on " + input, x.linesRead(), lines.size());
        Check.due("output of " + script + " on " + input, Feed.output(x), want.toString());
    }
}
