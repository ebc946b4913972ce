import java.io.IOException;
import java.lang.management.ManagementFactory;
import java.lang.reflect.Constructor;
import java.lang.reflect.Field;
import java.lang.reflect.Method;
import java.lang.reflect.Modifier;
import java.nio.file.Files;
import java.nio.file.Path;
import java.util.Arrays;
import java.util.Set;
import java.util.TreeSet;
import java.util.regex.Matcher;
import java.util.regex.Pattern;
import java.util.stream.Collectors;

/** The face of the document, what can be seen of ../shared/LANGUAGE.md in the source, and that calls make no objects. */
public final class LanguageTests {
    private static final String[] SOURCE_HAS_NOT = {
        "\\bfinally\\b", "\\bsynchronized\\b", "\\bassert\\b", "->", "::", "\\bvar\\b", "Exact\\(", "\\bprotected\\b", "\\bcatch\\b",
        "\\bimport (?!java\\.util\\.NoSuchElementException;)", "\\bpackage\\b", "\\bObject\\b", "\\bstatic \\{", "System\\.(?!arraycopy)",
        "getMessage", "\\bhashCode\\b", "\\btoString\\b", "\"\\s*\\+", "\\+\\s*\"", "\\bRandom\\b", "\\bThread\\b", "while \\(true\\)",
        "for \\(;;\\)", "\\bjava\\.(?!util\\.NoSuchElementException;)", "[^\\x00-\\x7f]"};

    private LanguageTests() {
    }

    private static Set<String> signaturesOfDocument(String document) {
        Set<String> all = new TreeSet<>();
        int begin = document.indexOf("public final class MuseumCases {");
        String face = document.substring(begin, document.indexOf("```", begin));
        Matcher m = Pattern.compile("public (\\w+) (\\w+)\\((.*?)\\)(?: throws (.*?))?;").matcher(face);
        while (m.find()) {
            String types = m.group(3).replaceAll("(\\w+) \\w+", "$1").replace(" ", "");
            all.add(m.group(1) + " " + m.group(2) + "(" + types + ")" + (m.group(4) == null ? "" : m.group(4).replace(" ", "")));
        }
        return all;
    }

    private static String signature(Method m) {
        String types = Arrays.stream(m.getParameterTypes()).map(Class::getSimpleName).collect(Collectors.joining(","));
        String exceptions = Arrays.stream(m.getExceptionTypes()).map(Class::getSimpleName).collect(Collectors.joining(","));
        return m.getReturnType() + " " + m.getName() + "(" + types + ")" + exceptions;
    }

    private static void face(String document) {
        Set<String> due = signaturesOfDocument(document);
        Set<String> names = new TreeSet<>();
        Set<String> face = new TreeSet<>();
        for (Method m : MuseumCases.class.getDeclaredMethods()) {
            if (Modifier.isPublic(m.getModifiers())) {
                face.add(signature(m));
                names.add(m.getName());
            }
        }
        Check.same("the public methods", face, due);
        Check.same("the document has 34 methods", due.size(), 34);
        for (Method m : MuseumCases.class.getDeclaredMethods()) {
            boolean isPrivate = Modifier.isPrivate(m.getModifiers());
            Check.same("rule 1: " + m.getName(), isPrivate ? !names.contains(m.getName()) : Modifier.isPublic(m.getModifiers()), true);
        }
        for (Field f : MuseumCases.class.getDeclaredFields()) {
            Check.same("rule 1: " + f.getName(), Modifier.isPrivate(f.getModifiers()), !f.getName().equals("NONE"));
        }
        Constructor<?>[] constructors = MuseumCases.class.getDeclaredConstructors();
        Check.same("one constructor", constructors.length + " " + constructors[0].toString(), "1 public MuseumCases()");
        Check.same("the class is final", Modifier.isFinal(MuseumCases.class.getModifiers()), true);
    }

    private static void classesInside() {
        Class<?>[] inside = MuseumCases.class.getDeclaredClasses();
        Check.same("rule 11: at most twelve classes", inside.length < 12, true);
        for (Class<?> c : inside) {
            int modifiers = c.getModifiers();
            Check.same("rule 1: " + c.getSimpleName(), Modifier.isStatic(modifiers) && !Modifier.isPublic(modifiers), true);
            int fields = 0;
            for (Field f : c.getDeclaredFields()) {
                fields += Modifier.isStatic(f.getModifiers()) ? 0 : 1;
                Check.same("rule 5: " + f.getName(), !Modifier.isStatic(f.getModifiers()) || Modifier.isFinal(f.getModifiers()), true);
            }
            Check.same("rule 11: fields of " + c.getSimpleName(), fields <= 20, true);
            for (Method m : c.getDeclaredMethods()) {
                Check.same("rule 11: parameters of " + m.getName(), m.getParameterCount() <= 7, true);
                Check.same("rule 6: " + m.getName(), Set.of("equals", "hashCode", "toString").contains(m.getName()), false);
            }
        }
    }

    private static void source(String source) {
        String code = source.replaceAll("(?s)/\\*.*?\\*/", "").replaceAll("//.*", "");
        for (String pattern : SOURCE_HAS_NOT) {
            Matcher m = Pattern.compile(pattern).matcher(code);
            Check.same("the source has " + pattern, m.find(), false);
        }
        Matcher thrown = Pattern.compile("\\bthrow\\b(?! new (IllegalStateException|IllegalArgumentException"
            + "|IndexOutOfBoundsException|NoSuchElementException)\\(\"[^\"]*\"\\);)").matcher(code);
        Check.same("rule 6: another throw", thrown.find(), false);
        lengths(code.split("\n"));
    }

    /** A method starts at a line with "(" and "{" right inside a class, and ends where its braces do. */
    private static void lengths(String[] lines) {
        int depth = 0;
        int classDepth = 0;
        int start = -1;
        for (int i = 0; i < lines.length; i++) {
            String line = lines[i];
            boolean opens = line.endsWith("{");
            classDepth = opens && line.contains(" class ") ? depth + 1 : classDepth;
            if (start < 0 && opens && depth == classDepth && !line.contains(" class ")) {
                start = i;
            }
            depth += (int) line.chars().filter(c -> c == '{').count() - (int) line.chars().filter(c -> c == '}').count();
            if (start >= 0 && depth <= classDepth) {
                Check.same("rule 11: at most sixty lines from " + lines[start].trim(), i - start < 60, true);
                start = -1;
            }
            classDepth = Math.min(classDepth, depth);
        }
        Check.same("the braces close", depth + " " + start, "0 -1");
    }

    /** One room holds all that a run makes, so that only the constructor and exceptions may make something. */
    private static void objects() {
        byte[] text = Check.bytes("museum 500 1;season 0 400;season 100 600;visitors 10 11 50;kind gel 500 point 200 100 point 800 400;"
            + "case a 1000 100 400 safe 350 410;case b 500 0 500;cassette a gel 100 400;cassette a gel 5 5;");
        MuseumCases x = new MuseumCases();
        com.sun.management.ThreadMXBean threads = (com.sun.management.ThreadMXBean) ManagementFactory.getThreadMXBean();
        useMostOf(x, text);
        long before = threads.getCurrentThreadAllocatedBytes();
        for (int i = 0; i < 100; i++) {
            useMostOf(x, text);
        }
        long bytes = threads.getCurrentThreadAllocatedBytes() - before;
        Check.same("rule 12: bytes of 100 rounds of calls: " + bytes, bytes < 20000, true);
    }

    private static void useMostOf(MuseumCases x, byte[] text) {
        Check.write(x, text);
        x.load();
        x.announce(10);
        x.advance(40);
        x.save(0);
        x.exchange(0, 500);
        x.move(1, 1);
        x.add(0, 0, 10, 10);
        x.remove(3);
        x.restore(0);
        x.open(1);
        x.setLeak(0, 100);
        x.setSafe(1, 0, 1000);
        x.humidityIn(0, 100);
        x.unsafeIn(1);
        x.roomIn(100);
        x.massFor(1, 0, 500, 72);
        x.bestFor(0, 72);
        x.restOf(0);
        x.cassette(0, 0, 4);
        x.mean(0);
        x.buffering(0);
        x.swing(0);
    }

    public static void main(String[] args) throws IOException {
        face(Files.readString(Path.of(args[1])));
        classesInside();
        source(Files.readString(Path.of(args[0])));
        objects();
        Check.end("LanguageTests");
    }
}
