import java.io.IOException;
import java.lang.reflect.InvocationTargetException;
import java.lang.reflect.Method;
import java.nio.file.Files;
import java.nio.file.Path;
import java.util.ArrayList;
import java.util.HashMap;
import java.util.List;
import java.util.Map;
import java.util.Set;
import java.util.function.Consumer;
import java.util.regex.Matcher;
import java.util.regex.Pattern;

/**
 * Runs tests/boundaries.txt, which goes through the document sentence by sentence. That file tells how it is written.
 * Behind each run a second object makes only the calls that were to change something: both have to be alike in all
 * that can be asked, so that every refused call and every question of the run is shown to have changed nothing.
 */
public final class BoundaryTests {
    private static final Pattern ROW = Pattern.compile("(\\w+)\\((.*)\\)(?: = (.*)| throws (\\w+))?");
    private static final Pattern REPEATED = Pattern.compile("\\{(\\d+):([^}]*)\\}");
    private static final Pattern BYTE = Pattern.compile("\\\\x([0-9a-f]{2})");
    private static final Set<String> CHANGING = Set.of("append", "truncate", "load", "announce", "setLeak", "setSafe", "open",
        "add", "remove", "move", "exchange", "advance", "save", "restore");
    private static final String RICH = "museum 900 3;season 9 300;season 80 700;visitors 3 20 9;"
        + "kind gel 500 point 200 100 point 800 400;case a 1000 100 400 safe 350 410;case b 500 50 500;cassette a gel 100 700;";

    private final Map<String, String> texts = new HashMap<>();
    private final Map<String, Method> methods = new HashMap<>();
    private final List<String> told = new ArrayList<>();
    private final List<Consumer<MuseumCases>> changes = new ArrayList<>();
    private String section = "";
    private String sentence = "";
    private int rows = 1;
    private MuseumCases museum = null;

    private BoundaryTests() {
        for (Method m : MuseumCases.class.getMethods()) {
            methods.put(m.getName(), m);
        }
    }

    // ---- the lines of the file

    private void read(String line) {
        String words = line.replaceAll("\\s*#.*", "");
        int gap = words.indexOf(' ');
        String first = gap < 0 ? words : words.substring(0, gap);
        String rest = gap < 0 ? "" : words.substring(gap + 1);
        switch (first) {
            case "": break;
            case "==": section = rest; break;
            case "let": texts.put(rest.split(" = ", 2)[0], unfold(rest.split(" = ", 2)[1])); break;
            case ">": begin(rest, 0); break;
            case "~": begin(rest, 1); break;
            case "new": fresh(); break;
            case "setup": fresh(); write(unfold(rest)); row("load()"); break;
            case "text": write(unfold(rest)); break;
            case "error": error(rest); break;
            case "hours": hours(rest); break;
            case "repeat": repeat(rest); break;
            default:
                for (String call : words.split(";\\s*")) {
                    row(call);
                }
        }
    }

    private void begin(String next, int rowsOfNext) {
        fresh();
        Check.same("the sentence has a row: " + section + " " + sentence, rows > 0, true);
        sentence = next;
        rows = rowsOfNext;
        told.add(section + " " + next);
    }

    /** Ends the run so far, if there is one, and begins another. */
    private void fresh() {
        if (museum != null) {
            MuseumCases twin = new MuseumCases();
            for (Consumer<MuseumCases> change : changes) {
                change.accept(twin);
            }
            alike("what may change nothing", museum, twin);
        }
        changes.clear();
        museum = new MuseumCases();
    }

    private void change(Consumer<MuseumCases> change) {
        change.accept(museum);
        changes.add(change);
    }

    private void write(byte[] text) {
        change(x -> Check.write(x, text));
    }

    private void write(String text) {
        write(Check.bytes(text));
    }

    /** Each number is an hour that passes with a group of so many visitors, or without a group. */
    private void hours(String visitors) {
        for (String number : unfold(visitors).split(" ")) {
            int group = Integer.parseInt(number);
            change(x -> {
                if (group > 0) {
                    x.announce(group);
                }
                x.advance(1);
            });
        }
    }

    private void repeat(String words) {
        String[] parts = words.split(" ", 2);
        for (int i = Integer.parseInt(parts[0]); i > 0; i--) {
            change(x -> perform(x, parts[1]));
        }
    }

    /** The error is due where the text has its "^", which does not belong to it. */
    private void error(String words) {
        String[] parts = words.split(" ", 2);
        String marked = unfold(parts[1]);
        MuseumCases x = rich();
        Check.write(x, Check.bytes(marked.replace("^", "")));
        String got = perform(x, "load()") + " " + x.errorCode() + " at " + x.errorPosition() + ", then " + perform(x, "truncate(1)");
        String due = "throws.IllegalArgumentException " + parts[0] + " at " + marked.indexOf('^') + ", then throws.IndexOutOfBoundsException";
        Check.same(where(words), got, due);
        alike("all else behind " + words, x, rich());
        rows++;
    }

    private static MuseumCases rich() {
        MuseumCases x = Check.museum(RICH);
        x.advance(30);
        x.announce(7);
        x.save(1);
        x.add(1, 0, 50, 50);
        x.advance(3);
        x.announce(11);
        return x;
    }

    // ---- calls

    private void row(String words) {
        Matcher m = ROW.matcher(words);
        if (!m.matches()) {
            Check.same(where("a line of tests/boundaries.txt"), words, "a call");
            return;
        }
        for (String arguments : alternatives(m.group(2))) {
            String call = m.group(1) + "(" + arguments + ")";
            String got = perform(museum, call);
            boolean isRefused = got.startsWith("throws.");
            if (m.group(4) != null) {
                Check.same(where(call), got, "throws." + m.group(4) + "Exception");
            } else if (m.group(3) != null) {
                Check.same(where(call), got, quotient(m.group(3)));
            } else {
                Check.same(where(call) + " threw " + got, isRefused, false);
            }
            // a load() that is refused empties the buffer, too
            if (CHANGING.contains(m.group(1)) && !isRefused || m.group(1).equals("load")) {
                changes.add(x -> perform(x, call));
            }
            rows++;
        }
    }

    /** "0, 1 | 2" is "0, 1" and "0, 2". */
    private static List<String> alternatives(String arguments) {
        List<String> all = new ArrayList<>(List.of(""));
        for (String argument : arguments.split(", ")) {
            List<String> longer = new ArrayList<>();
            for (String begun : all) {
                for (String one : argument.split(" \\| ")) {
                    longer.add(begun.isEmpty() ? one : begun + ", " + one);
                }
            }
            all = longer;
        }
        return all;
    }

    private String perform(MuseumCases x, String call) {
        String name = call.substring(0, call.indexOf('('));
        String arguments = call.substring(name.length() + 1, call.length() - 1);
        String[] parts = arguments.isEmpty() ? new String[0] : arguments.split(", ");
        Object[] numbers = new Object[parts.length];
        for (int i = 0; i < parts.length; i++) {
            numbers[i] = number(parts[i]);
        }
        try {
            Object answer = methods.get(name).invoke(x, numbers);
            return answer == null ? "done" : answer.toString();
        } catch (InvocationTargetException e) {
            return "throws." + e.getCause().getClass().getSimpleName();
        } catch (IllegalAccessException e) {
            throw new IllegalStateException(e);
        }
    }

    private static int number(String word) {
        return word.equals("MIN") ? Check.MIN : word.equals("MAX") ? Check.MAX : Long.decode(word).intValue();
    }

    /** "7 / 2" is a quotient of doubles, and "7f / 2f" one of floats. */
    private static String quotient(String due) {
        String[] parts = due.split(" / ");
        if (parts.length < 2) {
            return due;
        }
        if (due.contains("f")) {
            return Double.toString(Float.parseFloat(parts[0]) / Float.parseFloat(parts[1]));
        }
        return Double.toString(Double.parseDouble(parts[0]) / Double.parseDouble(parts[1]));
    }

    /** "<NAME>" stands for a text that has been told by "let", "{3:ab}" for "ababab", "\n" and "\x00" for bytes. */
    private String unfold(String words) {
        String text = words;
        for (Map.Entry<String, String> named : texts.entrySet()) {
            text = text.replace("<" + named.getKey() + ">", named.getValue());
        }
        text = REPEATED.matcher(text).replaceAll(m -> Matcher.quoteReplacement(m.group(2).repeat(Integer.parseInt(m.group(1)))));
        text = text.replace("\\n", "\n");
        return BYTE.matcher(text).replaceAll(m -> Matcher.quoteReplacement(Character.toString(Integer.parseInt(m.group(1), 16))));
    }

    // ---- what a museum can be asked

    /** Tells the first difference alone, for there are thousands of answers. */
    private void alike(String what, MuseumCases x, MuseumCases y) {
        String[] got = everything(x).split(" ");
        String[] due = everything(y).split(" ");
        int at = 0;
        while (at < got.length && at < due.length && got[at].equals(due[at])) {
            at++;
        }
        String gotHere = at < got.length ? got[at] : "nothing";
        Check.same(where(what) + " at answer " + at, gotHere, at < due.length ? due[at] : "nothing");
    }

    /** Ends with calls that change it: what is saved, and what is in the text buffer, can't be seen otherwise. */
    private String everything(MuseumCases x) {
        StringBuilder s = new StringBuilder(setup(x));
        s.append(climate(x));
        int length = 900;
        while (perform(x, "truncate(" + length + ")").startsWith("throws.")) {
            length--;
        }
        s.append(" buffer ").append(length);
        for (int slot = 0; slot < 2; slot++) {
            s.append(" slot ").append(perform(x, "restore(" + slot + ")")).append(climate(x));
        }
        s.append(" load ").append(perform(x, "load()")).append(' ').append(x.errorCode()).append(' ').append(x.errorPosition());
        return s.append(setup(x)).append(climate(x)).toString();
    }

    private static String setup(MuseumCases x) {
        StringBuilder s = new StringBuilder(" setup");
        for (int day = 0; day < 365; day++) {
            s.append(' ').append(x.setPoint(day));
        }
        for (int hour = 0; hour < 24; hour++) {
            s.append(' ').append(x.visitors(hour));
        }
        for (int i = 0; i < 1001 * x.report(4); i++) {
            s.append(' ').append(x.content(i / 1001, i % 1001));
        }
        return s.toString();
    }

    private String climate(MuseumCases x) {
        StringBuilder s = new StringBuilder(Check.state(x));
        s.append(" ahead");
        for (int hours = 1; hours < 30; hours++) {
            s.append(' ').append(x.roomIn(hours));
        }
        for (int n = 0; n < x.report(3); n++) {
            for (String question : List.of("mean", "swing", "buffering", "restOf", "unsafeIn")) {
                s.append(' ').append(perform(x, question + "(" + n + ")"));
            }
            s.append(' ').append(x.humidityIn(n, 1)).append(' ').append(x.humidityIn(n, 50));
        }
        return s.toString();
    }

    private String where(String what) {
        return section + " \"" + sentence + "\": " + what;
    }

    public static void main(String[] args) throws IOException {
        BoundaryTests tests = new BoundaryTests();
        for (String line : Files.readAllLines(Path.of(args[2]))) {
            tests.read(line);
        }
        tests.begin("the end of the file", 1);
        tests.told.remove(tests.told.size() - 1);
        List<String> due = Document.sentences(Files.readString(Path.of(args[1])));
        for (int i = 0; i < Math.max(due.size(), tests.told.size()); i++) {
            String got = i < tests.told.size() ? tests.told.get(i) : "nothing";
            Check.same("sentence " + i + " of tests/boundaries.txt", got, i < due.size() ? due.get(i) : "nothing");
        }
        Check.end("BoundaryTests");
    }
}
