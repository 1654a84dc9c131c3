import java.util.ArrayList;
import java.util.HashMap;
import java.util.List;
import java.util.Map;

/**
 * The document's words on compile and run once more, over strings and lists and in another way than the
 * program's, so that the two can be held against each other.
 */
final class Model {
    /** A script that is not accepted. */
    static final class Rejected extends Exception {
        private static final long serialVersionUID = 1L;
    }

    /** The end of a run. */
    private static final class Stop extends Exception {
        private static final long serialVersionUID = 1L;
        private final int answer;

        private Stop(int answer) {
            this.answer = answer;
        }
    }

    private record Item(char c, boolean escaped) {
        boolean is(char special) {
            return !escaped && c == special;
        }
    }

    private record Atom(char c, boolean any, boolean starred) {
        boolean takes(char t) {
            return any || c == t;
        }
    }

    private record Regex(boolean atStart, boolean atEnd, List<Atom> atoms) {
    }

    private record Address(int number, boolean last, Regex regex) {
    }

    private static final class Command {
        private Address from;
        private Address to;
        private boolean negated;
        private char verb;
        private Regex sought;
        private List<Item> replacement;
        private boolean global;
        private String label = "";
        private boolean active;
        private int activated;
    }

    private final String script;
    private int at = 0;
    private final List<Command> commands = new ArrayList<>();
    private final Map<String, Integer> places = new HashMap<>();

    private final StringBuilder output = new StringBuilder();
    private String pattern = "";
    private String hold = "";
    private int linesRead = 0;
    private int stepsUsed = 0;
    private boolean flag = false;
    private boolean quiet;
    private List<String> lines;

    Model(String script) throws Rejected {
        this.script = script;
        parse();
    }

    int size() {
        return commands.size();
    }

    String results() {
        return output + "|" + pattern + "|" + hold + "|" + linesRead + "|" + stepsUsed;
    }

    // ---- compile ----

    private static void must(boolean condition) throws Rejected {
        if (!condition) {
            throw new Rejected();
        }
    }

    private boolean over() {
        return at == script.length();
    }

    private boolean sees(String chars) {
        return !over() && chars.indexOf(script.charAt(at)) >= 0;
    }

    private void pass(String chars) {
        while (sees(chars)) {
            at++;
        }
    }

    private String maximalRun(String regex) {
        int from = at;
        while (!over() && script.substring(at, at + 1).matches(regex)) {
            at++;
        }
        return script.substring(from, at);
    }

    private void parse() throws Rejected {
        for (pass(" ;\n"); !over(); pass(" ;\n")) {
            Command command = new Command();
            parseAddresses(command);
            parseVerb(command);
            pass(" ");
            must(over() || sees(";\n"));
            commands.add(command);
        }
        must(commands.size() <= 16);
        for (int k = 0; k < commands.size(); k++) {
            if (commands.get(k).verb == ':') {
                must(places.put(commands.get(k).label, k) == null);
            }
        }
        places.put("", commands.size());
        for (Command command : commands) {
            must(places.containsKey(command.label));
        }
    }

    private void parseAddresses(Command command) throws Rejected {
        if (!sees("0123456789$/")) {
            return;
        }
        command.from = parseAddress();
        pass(" ");
        if (sees(",")) {
            at++;
            pass(" ");
            must(sees("0123456789$/"));
            command.to = parseAddress();
            pass(" ");
        }
        if (sees("!")) {
            at++;
            command.negated = true;
            pass(" ");
        }
    }

    private Address parseAddress() throws Rejected {
        if (sees("$")) {
            at++;
            return new Address(0, true, null);
        }
        if (sees("/")) {
            at++;
            return new Address(0, false, regex(text()));
        }
        String digits = maximalRun("[0-9]");
        must(digits.length() <= 3);
        int number = Integer.parseInt(digits);
        must(number >= 1 && number <= 255);
        return new Address(number, false, null);
    }

    private void parseVerb(Command command) throws Rejected {
        must(sees("sdpNhHgGx:bt"));
        command.verb = script.charAt(at++);
        if (command.verb == 's') {
            must(sees("/"));
            at++;
            command.sought = regex(text());
            command.replacement = text();
            command.global = sees("g");
            at += command.global ? 1 : 0;
        } else if (":bt".indexOf(command.verb) >= 0) {
            pass(" ");
            command.label = maximalRun("[A-Za-z0-9_]");
            must(command.label.length() <= 8);
            must(command.verb != ':' || command.from == null && !command.label.isEmpty());
        }
    }

    private List<Item> text() throws Rejected {
        List<Item> items = new ArrayList<>();
        while (true) {
            must(!over());
            char c = script.charAt(at++);
            must(c != '\n');
            if (c == '/') {
                return items;
            }
            if (c == '\\') {
                must(!over());
                char x = script.charAt(at++);
                must(x != '\n');
                items.add(new Item(x == 'n' ? '\n' : x, true));
            } else {
                items.add(new Item(c, false));
            }
        }
    }

    private static Regex regex(List<Item> items) throws Rejected {
        must(!items.isEmpty());
        List<Item> rest = new ArrayList<>(items);
        boolean atStart = rest.get(0).is('^');
        if (atStart) {
            rest.remove(0);
        }
        boolean atEnd = !rest.isEmpty() && rest.get(rest.size() - 1).is('$');
        if (atEnd) {
            rest.remove(rest.size() - 1);
        }
        List<Atom> atoms = new ArrayList<>();
        for (Item item : rest) {
            if (item.is('*') && !atoms.isEmpty()) {
                Atom last = atoms.remove(atoms.size() - 1);
                must(!last.starred);
                atoms.add(new Atom(last.c, last.any, true));
            } else {
                atoms.add(new Atom(item.c, item.is('.'), false));
            }
        }
        must(atoms.size() <= 12);
        return new Regex(atStart, atEnd, atoms);
    }

    // ---- run ----

    int run(boolean quietly, int fuel, String input) {
        quiet = quietly;
        lines = new ArrayList<>(List.of(input.split("\n", -1)));
        if (lines.get(lines.size() - 1).isEmpty()) {
            lines.remove(lines.size() - 1);
        }
        try {
            while (true) {
                cycle(fuel);
            }
        } catch (Stop stop) {
            return stop.answer;
        }
    }

    private void cycle(int fuel) throws Stop {
        if (linesRead == lines.size()) {
            throw new Stop(StreamEditorX.RUN_DONE);
        }
        pattern = fitting(lines.get(linesRead));
        linesRead++;
        flag = false;
        int k = 0;
        while (k < commands.size()) {
            if (stepsUsed == fuel) {
                throw new Stop(StreamEditorX.RUN_OUT_OF_STEPS);
            }
            stepsUsed++;
            Command command = commands.get(k);
            if (selects(command) == command.negated) {
                k++;
            } else if (command.verb == 'd') {
                pattern = "";
                return;
            } else {
                k = act(command, k);
            }
        }
        if (!quiet) {
            print();
        }
    }

    private int act(Command command, int k) throws Stop {
        switch (command.verb) {
            case 's' -> substitute(command);
            case 'p' -> print();
            case 'N' -> next();
            case 'h' -> hold = pattern;
            case 'g' -> pattern = hold;
            case 'H' -> hold = fitting(hold + "\n" + pattern);
            case 'G' -> pattern = fitting(pattern + "\n" + hold);
            case 'x' -> {
                String old = pattern;
                pattern = hold;
                hold = old;
            }
            case 'b' -> {
                return places.get(command.label);
            }
            case 't' -> {
                boolean taken = flag;
                flag = false;
                return taken ? places.get(command.label) : k + 1;
            }
            default -> {
            }
        }
        return k + 1;
    }

    private static String fitting(String text) throws Stop {
        if (text.length() > 64) {
            throw new Stop(StreamEditorX.RUN_OVERFLOW);
        }
        return text;
    }

    private void print() throws Stop {
        if (output.length() + pattern.length() + 1 > 256) {
            throw new Stop(StreamEditorX.RUN_OVERFLOW);
        }
        output.append(pattern).append('\n');
    }

    private void next() throws Stop {
        if (linesRead < lines.size()) {
            pattern = fitting(pattern + "\n" + lines.get(linesRead));
            linesRead++;
            return;
        }
        if (!quiet) {
            print();
        }
        throw new Stop(StreamEditorX.RUN_DONE);
    }

    private boolean holds(Address address) {
        if (address.regex != null) {
            return firstMatch(address.regex, 0) != null;
        }
        return address.last ? linesRead == lines.size() : address.number == linesRead;
    }

    private boolean selects(Command command) {
        if (command.from == null) {
            return true;
        }
        if (command.to == null) {
            return holds(command.from);
        }
        boolean byNumber = command.to.number > 0;
        if (command.active) {
            if (linesRead > command.activated
                    && (byNumber ? command.to.number <= linesRead : holds(command.to))) {
                command.active = false;
            }
            return true;
        }
        if (!holds(command.from)) {
            return false;
        }
        command.active = true;
        command.activated = linesRead;
        if (byNumber && command.to.number <= linesRead) {
            command.active = false;
        }
        return true;
    }

    private void substitute(Command command) throws Stop {
        String t = pattern;
        int n = t.length();
        StringBuilder r = new StringBuilder();
        int p = 0;
        boolean taken = false;
        for (int[] match = firstMatch(command.sought, p); match != null; match = firstMatch(command.sought, p)) {
            int i = match[0];
            int j = match[1];
            taken = true;
            r.append(t, p, i);
            for (Item item : command.replacement) {
                r.append(item.is('&') ? t.substring(i, j) : String.valueOf(item.c));
            }
            if (j > i) {
                p = j;
            } else if (i < n) {
                r.append(t.charAt(i));
                p = i + 1;
            } else {
                p = n + 1;
            }
            if (!command.global || p == n + 1) {
                break;
            }
        }
        if (taken) {
            pattern = fitting(p <= n ? r + t.substring(p) : r.toString());
            flag = true;
        }
    }

    private int[] firstMatch(Regex regex, int p) {
        for (int i = p; i <= pattern.length(); i++) {
            for (int j = pattern.length(); j >= i; j--) {
                boolean anchored = (!regex.atStart || i == 0) && (!regex.atEnd || j == pattern.length());
                if (anchored && cuts(regex.atoms, pattern.substring(i, j))) {
                    return new int[] {i, j};
                }
            }
        }
        return null;
    }

    /** Whether the text can be cut into pieces, one per atom: by the last char and the last atom, for all prefixes. */
    private static boolean cuts(List<Atom> atoms, String text) {
        boolean[][] can = new boolean[atoms.size() + 1][text.length() + 1];
        can[0][0] = true;
        for (int a = 1; a <= atoms.size(); a++) {
            Atom atom = atoms.get(a - 1);
            for (int n = 0; n <= text.length(); n++) {
                boolean last = n > 0 && atom.takes(text.charAt(n - 1));
                can[a][n] = atom.starred ? can[a - 1][n] || last && can[a][n - 1] : last && can[a - 1][n - 1];
            }
        }
        return can[atoms.size()][text.length()];
    }
}
