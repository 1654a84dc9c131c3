import java.io.ByteArrayOutputStream;
import java.io.IOException;
import java.io.PrintStream;
import java.net.URL;
import java.net.URLClassLoader;
import java.nio.file.Files;
import java.nio.file.Path;
import java.util.ArrayList;
import java.util.List;
import java.util.TreeSet;
import java.util.regex.Matcher;
import java.util.regex.Pattern;
import java.util.stream.Stream;
import javax.tools.ToolProvider;

/** What README.md shows is true: its program prints what it says, and so do the rows of its tables. */
public final class ReadmeTest {
    private static final Path TESTS = Path.of("src/test/java");

    private final String text;

    private ReadmeTest(String text) {
        this.text = text;
    }

    public static void main(String[] args) throws IOException, ReflectiveOperationException {
        ReadmeTest test = new ReadmeTest(Files.readString(Path.of("README.md")));
        test.programPrintsWhatIsShown();
        test.callsAreTheFace();
        test.scriptsAreRejected();
        test.answersHaveTheirValues();
        test.runsEndAsShown();
        test.scriptsPrintWhatIsShown();
        test.testsAreAllNamed();
        Check.finish();
    }

    private void programPrintsWhatIsShown() throws IOException, ReflectiveOperationException {
        Path build = Files.createTempDirectory("readme");
        Path source = build.resolve("Example.java");
        Path program = build.resolve("Example.class");
        try {
            Files.writeString(source, block("java"));
            int compiled = ToolProvider.getSystemJavaCompiler().run(null, null, null, "-Xlint:all", "-Werror",
                    "-cp", System.getProperty("java.class.path"), "-d", build.toString(), source.toString());
            Check.due("javac of the program", compiled, 0);
            Check.due("what the program prints", compiled == 0 ? printed(build) : "", block("text"));
        } finally {
            Files.deleteIfExists(program);
            Files.deleteIfExists(source);
            Files.deleteIfExists(build);
        }
    }

    private static String printed(Path build) throws IOException, ReflectiveOperationException {
        PrintStream before = System.out;
        ByteArrayOutputStream bytes = new ByteArrayOutputStream();
        try (URLClassLoader loader = new URLClassLoader(new URL[] {build.toUri().toURL()})) {
            System.setOut(new PrintStream(bytes, true));
            loader.loadClass("Example").getMethod("main", String[].class).invoke(null, (Object) new String[0]);
        } finally {
            System.setOut(before);
        }
        return bytes.toString().replace(System.lineSeparator(), "\n");
    }

    /** Each public method stands in the table of the calls, and no other name does. */
    private void callsAreTheFace() {
        TreeSet<String> face = new TreeSet<>();
        face.add("StreamEditorX");
        for (var method : StreamEditorX.class.getMethods()) {
            if (method.getDeclaringClass() == StreamEditorX.class) {
                face.add(method.getName());
            }
        }
        TreeSet<String> named = names("(\\w+)\\(", table("call", "what it does, and what it answers"));
        Check.due("the calls", named.toString(), face.toString());
    }

    private void scriptsAreRejected() {
        for (String[] row : table("rejected", "accepted", "why")) {
            Scripts.rejected(code(row[0]));
            Check.due("accepted is " + row[1], Feed.compiled(code(row[1])) >= 0, true);
        }
    }

    private void answersHaveTheirValues() throws ReflectiveOperationException {
        for (String[] row : table("answer", "value", "what it means")) {
            Check.due(row[0], answer(row[0]), Integer.parseInt(row[1]));
        }
        Check.due("REFUSED", StreamEditorX.REFUSED, -1);
        Check.due("COMPILE_ERROR", StreamEditorX.COMPILE_ERROR, -1);
    }

    private void runsEndAsShown() throws ReflectiveOperationException {
        for (String[] row : table("quiet", "fuel", "script", "input", "answer", "output length", "pattern length",
                "hold length", "lines read", "steps used")) {
            StreamEditorX x = Feed.editor(Integer.parseInt(row[0]), Integer.parseInt(row[1]), code(row[2]),
                    lines(row[3]));
            String what = row[2] + " with fuel " + row[1] + ": ";
            Check.due(what + "accepted", x.compile() >= 0, true);
            Check.due(what + "run", x.run(), answer(row[4]));
            Check.due(what + "output length", x.outputLength(), Integer.parseInt(row[5]));
            Check.due(what + "pattern length", x.patternLength(), Integer.parseInt(row[6]));
            Check.due(what + "hold length", x.holdLength(), Integer.parseInt(row[7]));
            Check.due(what + "lines read", x.linesRead(), Integer.parseInt(row[8]));
            Check.due(what + "steps used", x.stepsUsed(), Integer.parseInt(row[9]));
        }
    }

    private void scriptsPrintWhatIsShown() {
        for (String[] row : table("script", "input", "output")) {
            Feed.dueOutput(code(row[0]), lines(row[1]), lines(row[2]));
        }
    }

    private void testsAreAllNamed() throws IOException {
        TreeSet<String> there = new TreeSet<>();
        try (Stream<Path> files = Files.list(TESTS)) {
            files.map(file -> file.getFileName().toString()).filter(name -> name.endsWith("Test.java"))
                    .forEach(name -> there.add(name.replace(".java", "")));
        }
        TreeSet<String> named = names("`(\\w+)`", table("test", "what it tests"));
        Check.due("the tests", named.toString(), there.toString());
    }

    /** The names of that form in the first cells of the rows. */
    private static TreeSet<String> names(String form, List<String[]> rows) {
        TreeSet<String> names = new TreeSet<>();
        for (String[] row : rows) {
            Matcher name = Pattern.compile(form).matcher(row[0]);
            while (name.find()) {
                names.add(name.group(1));
            }
        }
        return names;
    }

    /** The one block of that kind. */
    private String block(String kind) {
        Matcher block = Pattern.compile("(?ms)^```" + kind + "\n(.*?)^```$").matcher(text);
        String found = block.find() ? block.group(1) : "";
        Check.due("a block of " + kind + ", and no second one", !found.isEmpty() && !block.find(), true);
        return found;
    }

    /** The rows below the one head with these words. */
    private List<String[]> table(String... head) {
        String words = "| " + String.join(" | ", head) + " |\n" + "|---".repeat(head.length) + "|\n";
        int place = ("\n" + text).indexOf("\n" + words);
        List<String[]> rows = new ArrayList<>();
        if (place >= 0) {
            text.substring(place + words.length()).lines().takeWhile(line -> line.startsWith("| "))
                    .forEach(line -> rows.add(line.substring(2, line.length() - 2).split(" \\| ")));
        }
        Check.due("the table of " + head[0] + " has rows", rows.isEmpty(), false);
        for (String[] row : rows) {
            Check.due("cells of the row of " + row[0], row.length, head.length);
        }
        return rows;
    }

    private static int answer(String cell) throws ReflectiveOperationException {
        return StreamEditorX.class.getField(code(cell)).getInt(null);
    }

    private static String code(String cell) {
        if (cell.equals("(empty)")) {
            return "";
        }
        Check.due(cell + " is one piece of code", cell.matches("`[^`]+`"), true);
        return cell.substring(1, cell.length() - 1);
    }

    private static String lines(String cell) {
        return code(cell).replace("\\n", "\n");
    }
}
