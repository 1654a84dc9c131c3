import java.util.Random;

/** Promises 6 and 8 to 12: many made-up scripts and inputs, each held against the model's answers. */
public final class ModelTest {
    private static final int ROUNDS = 60000;
    private static final String[] LABELS = {"a", "b", "ab", "abcdefgh"};
    private static final String[] ITEMS = {
        "a", "a", "b", "b", "c", ".", "*", "*", "^", "$", "\\n", "\\*", "\\.", "\\/", "\\$", "&", "\\&", " ", ";"};
    private static final String NOISE = "ab /;,!$*1209spdNhHgGxbt:\\^.&n\n_";

    // A fixed seed, so that each run of the test asks the same.
    private final Random random = new Random(20261115);
    private StreamEditorX x;
    private int quiet;
    private int fuel;
    private int accepted = 0;
    private final int[] answers = new int[4];

    public static void main(String[] args) {
        ModelTest test = new ModelTest();
        for (int n = 0; n < ROUNDS; n++) {
            test.round();
        }
        test.dueVariety();
        Check.finish();
    }

    private void round() {
        takeEditor();
        String script = script();
        x.clearScript();
        Feed.script(x, script);
        int size = x.compile();
        try {
            Model model = new Model(script);
            Check.due("compile of " + script, size, model.size());
            Check.due("table of " + script, x.hasTable(), true);
        } catch (Model.Rejected rejected) {
            Check.due("compile of " + script, size, StreamEditorX.COMPILE_ERROR);
            Check.due("table of " + script, x.hasTable(), false);
            Check.due("run of " + script, x.run(), StreamEditorX.RUN_NO_TABLE);
            return;
        }
        accepted++;
        for (int n = 0; n < 3; n++) {
            compareRun(script);
        }
    }

    /** Most rounds use the last round's editor again, so that what it left behind would show. */
    private void takeEditor() {
        if (x == null || chance(10)) {
            quiet = random.nextInt(2);
            fuel = chance(50) ? 16 + random.nextInt(60) : 200 + random.nextInt(200);
            x = new StreamEditorX(quiet, fuel);
        }
    }

    private void compareRun(String script) {
        String input = input();
        x.clearInput();
        Feed.input(x, input);
        try {
            Model model = new Model(script);
            String what = "quiet " + quiet + ", fuel " + fuel + ", " + script + " on " + input;
            int answer = x.run();
            Check.due("run, " + what, answer, model.run(quiet == 1, fuel, input));
            Check.due("results, " + what, Feed.results(x), model.results());
            answers[answer]++;
        } catch (Model.Rejected rejected) {
            throw new IllegalStateException(rejected);
        }
    }

    /** The made-up scripts are of use only if they come to all ends. */
    private void dueVariety() {
        System.out.println(accepted + " scripts accepted; runs done " + answers[StreamEditorX.RUN_DONE]
                + ", out of steps " + answers[StreamEditorX.RUN_OUT_OF_STEPS]
                + ", overflow " + answers[StreamEditorX.RUN_OVERFLOW]);
        Check.due("many scripts accepted", accepted > ROUNDS / 5, true);
        Check.due("many scripts rejected", accepted < ROUNDS - ROUNDS / 5, true);
        Check.due("many runs done", answers[StreamEditorX.RUN_DONE] > ROUNDS / 20, true);
        Check.due("many runs out of steps", answers[StreamEditorX.RUN_OUT_OF_STEPS] > ROUNDS / 20, true);
        Check.due("many runs with overflow", answers[StreamEditorX.RUN_OVERFLOW] > ROUNDS / 20, true);
    }

    private boolean chance(int percent) {
        return random.nextInt(100) < percent;
    }

    private String pick(String... choices) {
        return choices[random.nextInt(choices.length)];
    }

    private String script() {
        StringBuilder script = new StringBuilder();
        int commands = random.nextInt(chance(10) ? 20 : 7);
        for (int n = 0; n < commands; n++) {
            script.append(command()).append(pick(";", "\n", " ; "));
        }
        // Most scripts get the labels they may name, or few would be accepted.
        if (chance(80)) {
            for (String label : LABELS) {
                String line = ":" + label + "\n";
                boolean there = (";" + script).replace('\n', ';').contains(";:" + label + ";");
                if (!there && chance(90)) {
                    script.insert(chance(50) ? 0 : script.length(), line);
                }
            }
        }
        if (script.length() > 0 && chance(15)) {
            int place = random.nextInt(script.length());
            script.replace(place, place + random.nextInt(2), "" + NOISE.charAt(random.nextInt(NOISE.length())));
        }
        if (script.length() > 128) {
            script.setLength(128);
        }
        return script.toString();
    }

    private String command() {
        String address = chance(50) ? "" : addressPart();
        String verb = pick("s", "s", "s", "d", "p", "N", "h", "H", "g", "G", "x", "b", "t", "t");
        if (verb.equals("s")) {
            return address + "s/" + regex() + "/" + replacement() + "/" + pick("", "g");
        }
        if (verb.equals("b") || verb.equals("t")) {
            return address + verb + pick("", " ") + pick("", "a", "b", "ab", "abcdefgh");
        }
        return address + verb;
    }

    private String addressPart() {
        String blank = pick("", "", " ");
        String second = chance(50) ? "" : "," + blank + address();
        return address() + blank + second + blank + pick("", "", "!") + blank;
    }

    private String address() {
        return pick("1", "2", "3", "03", "5", "$", "/" + regex() + "/", "/" + regex() + "/");
    }

    private String regex() {
        StringBuilder text = new StringBuilder(pick("", "", "^", pick("a", "b")));
        int size = random.nextInt(chance(5) ? 16 : 4);
        for (int n = 0; n < size; n++) {
            text.append(pick(ITEMS));
        }
        return text.length() == 0 && chance(90) ? "a" : text.toString();
    }

    private String replacement() {
        StringBuilder text = new StringBuilder();
        int size = random.nextInt(chance(10) ? 20 : 4);
        for (int n = 0; n < size; n++) {
            text.append(pick(ITEMS));
        }
        return text.toString();
    }

    private String input() {
        StringBuilder text = new StringBuilder();
        int size = random.nextInt(chance(25) ? 129 : 24);
        boolean longLines = chance(20);
        while (text.length() < size) {
            int n = random.nextInt(longLines ? 300 : 12);
            text.append(n < 3 ? '\n' : n == 3 ? '*' : n == 4 ? 'c' : n % 2 == 0 ? 'a' : 'b');
        }
        return text.toString();
    }
}
