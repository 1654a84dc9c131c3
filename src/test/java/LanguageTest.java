import java.io.IOException;
import java.lang.reflect.Field;
import java.lang.reflect.Member;
import java.lang.reflect.Method;
import java.lang.reflect.Modifier;
import java.nio.file.Files;
import java.nio.file.Path;
import java.util.HashMap;
import java.util.Map;
import java.util.TreeMap;
import java.util.TreeSet;
import java.util.regex.Matcher;
import java.util.regex.Pattern;

/** The public face, and those rules of LANGUAGE.md that can be seen from the class and from its text. */
public final class LanguageTest {
    private static final Path SOURCE = Path.of("src/main/java/StreamEditorX.java");
    private static final int MAX_DEPTH = 6;
    private static final int MAX_METHOD_LINES = 60;
    private static final int MAX_FIELDS = 40;

    private static final String FACE = """
        boolean hasTable()
        int COMPILE_ERROR = -1
        int FUEL_MAX = 2048
        int FUEL_MIN = 16
        int INPUT_CAP = 128
        int MAX_ATOMS = 12
        int MAX_COMMANDS = 16
        int MAX_LABEL = 8
        int MAX_NUMBER = 255
        int OUTPUT_CAP = 256
        int REFUSED = -1
        int RUN_DONE = 0
        int RUN_NO_TABLE = 1
        int RUN_OUT_OF_STEPS = 2
        int RUN_OVERFLOW = 3
        int SCRIPT_CAP = 128
        int SPACE_CAP = 64
        int addInputChar(int)
        int addScriptChar(int)
        int compile()
        int holdChar(int)
        int holdLength()
        int linesRead()
        int outputChar(int)
        int outputLength()
        int patternChar(int)
        int patternLength()
        int run()
        int stepsUsed()
        void clearInput()
        void clearScript()
        """;

    private final Map<String, String> bodies = new TreeMap<>();
    private final Map<String, Integer> depths = new HashMap<>();

    public static void main(String[] args) throws IOException, IllegalAccessException {
        faceIsTheDocuments();
        fieldsAreAllowed();
        LanguageTest test = new LanguageTest();
        String text = Files.readString(SOURCE).replaceAll("(?s)/\\*.*?\\*/", "").replaceAll("//[^\n]*", "");
        wordsAreAllowed(text);
        test.readBodies(text);
        test.methodsAreShort();
        test.callsAreNotDeep();
        Check.finish();
    }

    private static void faceIsTheDocuments() throws IllegalAccessException {
        TreeSet<String> face = new TreeSet<>();
        for (Field field : StreamEditorX.class.getDeclaredFields()) {
            if (isOpen(field)) {
                face.add(field.getType() + " " + field.getName() + " = " + field.get(null));
            }
        }
        for (Method method : StreamEditorX.class.getDeclaredMethods()) {
            if (isOpen(method)) {
                String parameter = method.getParameterCount() == 0 ? "" : method.getParameterTypes()[0].getName();
                face.add(method.getReturnType() + " " + method.getName() + "(" + parameter + ")");
                Check.due(method + " is public alone", method.getModifiers(), Modifier.PUBLIC);
            }
            Check.due(method + " has few parameters", method.getParameterCount() <= 7, true);
        }
        Check.due("the public face", String.join("\n", face) + "\n", FACE);
        Check.due("constructors", StreamEditorX.class.getDeclaredConstructors().length, 1);
        Check.due("the constructor", StreamEditorX.class.getDeclaredConstructors()[0].toString(),
                "public StreamEditorX(int,int)");
        Check.due("nested classes", StreamEditorX.class.getDeclaredClasses().length, 0);
        Check.due("the class", Modifier.toString(StreamEditorX.class.getModifiers()), "public final");
        Check.due("its parent", StreamEditorX.class.getSuperclass().getName(), "java.lang.Object");
        Check.due("its interfaces", StreamEditorX.class.getInterfaces().length, 0);
    }

    private static boolean isOpen(Member member) {
        return !Modifier.isPrivate(member.getModifiers());
    }

    private static void fieldsAreAllowed() {
        int own = 0;
        for (Field field : StreamEditorX.class.getDeclaredFields()) {
            Class<?> type = field.getType();
            Class<?> unit = type.isArray() ? type.getComponentType() : type;
            boolean allowed = unit.isPrimitive() && unit != float.class && unit != double.class;
            Check.due(field + " has an allowed type", allowed, true);
            if (Modifier.isStatic(field.getModifiers())) {
                boolean constant = Modifier.isFinal(field.getModifiers()) && (type == int.class || type == long.class);
                Check.due(field + " is a constant", constant, true);
            } else {
                own++;
            }
        }
        Check.due("fields beside the constants are few", own <= MAX_FIELDS, true);
    }

    private static void wordsAreAllowed(String text) {
        String words = "import package float double String Math Integer System Arrays Object null throw try catch "
                + "synchronized assert instanceof interface enum record protected var native throws length";
        for (String word : words.split(" ")) {
            Check.due("the word " + word + " is there", Pattern.compile("\\b" + word + "\\b").matcher(text).find(), false);
        }
        for (String sign : new String[] {"->", "::", "\"", "@", "[]["}) {
            Check.due("the sign " + sign + " is there", text.contains(sign), false);
        }
        // An array is made in a field's initialiser alone, with a constant as its length.
        Matcher made = Pattern.compile("([^\n]*)\\bnew\\b([^\n]*)").matcher(text);
        while (made.find()) {
            boolean allowed = made.group().matches(
                    "    private final (int|boolean)\\[\\] \\w+ = new \\1\\[[A-Z_]+\\];");
            Check.due("allowed: " + made.group(), allowed, true);
        }
    }

    /** The text of each method by its name, by the way the source is indented. */
    private void readBodies(String text) {
        Matcher method = Pattern.compile("(?ms)^    (?:public|private) [a-z\\[\\] ]*?\\b(\\w+)\\([^)]*\\) \\{\n(.*?)^    \\}$")
                .matcher(text);
        while (method.find()) {
            Check.due("a second method " + method.group(1), bodies.put(method.group(1), method.group(2)) != null, false);
        }
        Check.due("methods and constructor found", bodies.size(), StreamEditorX.class.getDeclaredMethods().length + 1);
    }

    private void methodsAreShort() {
        for (Map.Entry<String, String> method : bodies.entrySet()) {
            long lines = method.getValue().lines().count() + 2;
            Check.due(method.getKey() + " is short", lines <= MAX_METHOD_LINES, true);
            boolean nested = Pattern.compile("(?<!if |for |while |switch )\\b\\w+\\([^()]*\\b(?!if|for|while|switch)\\w+\\(")
                    .matcher(method.getValue().replaceAll("\\b(if|for|while|switch) \\(", "$1 ;;; ")).find();
            Check.due("a call inside the arguments of a call, in " + method.getKey(), nested, false);
        }
    }

    private void callsAreNotDeep() {
        int deepest = 0;
        for (String name : bodies.keySet()) {
            deepest = Math.max(deepest, depth(name, ""));
        }
        System.out.println("calls go " + deepest + " deep");
        Check.due("calls are not deep", deepest <= MAX_DEPTH, true);
    }

    private int depth(String name, String path) {
        if ((path + " ").contains(" " + name + " ")) {
            Check.due("recursion" + path + " " + name, true, false);
            return 0;
        }
        if (!depths.containsKey(name)) {
            int deepest = 0;
            Matcher call = Pattern.compile("\\b(\\w+)\\(").matcher(bodies.get(name));
            while (call.find()) {
                boolean known = bodies.containsKey(call.group(1));
                Check.due("a method of the class: " + call.group(1), known, true);
                deepest = Math.max(deepest, known ? depth(call.group(1), path + " " + name) : 0);
            }
            depths.put(name, deepest + 1);
        }
        return depths.get(name);
    }
}
