import java.lang.management.ManagementFactory;
import java.lang.reflect.Constructor;
import java.lang.reflect.Field;
import java.lang.reflect.Method;
import java.lang.reflect.Modifier;
import java.nio.file.Files;
import java.nio.file.Path;
import java.util.ArrayList;
import java.util.HashMap;
import java.util.List;
import java.util.Map;
import java.util.regex.Matcher;
import java.util.regex.Pattern;

/** Rules of LANGUAGE.md that can be looked at by a program: words, the face, sizes, and what calls make. */
public final class LanguageTest {
    private static final Path SOURCE = Path.of("src/main/java/NobodyFirst.java");

    public static void main(String[] args) throws Exception {
        words();
        face();
        sizes();
        depth();
        room();
        Due.end();
    }

    /** The source without comments, and with empty texts. */
    private static String code() throws Exception {
        return Files.readString(SOURCE).replaceAll("(?s)/\\*.*?\\*/", "").replaceAll("//[^\n]*", "")
            .replaceAll("\"[^\"\n]*\"", "\"\"");
    }

    private static void words() throws Exception {
        String source = Files.readString(SOURCE);
        String code = code();
        String[] ruledOut = {"\\bthrow\\b", "\\btry\\b", "\\bcatch\\b", "\\bsynchronized\\b", "\\bassert\\b", "->", "::",
            "Exact\\b", "\\bpackage\\b", "\\bprotected\\b", "\\bstatic\\s*\\{", "\\bObject\\b", "\\bthis\\b",
            "System\\.(?!arraycopy)", "Math\\.(?!max|min)", "\\bhashCode\\b", "\\btoString\\b"};
        for (String word : ruledOut) {
            Matcher found = Pattern.compile(word).matcher(code);
            Due.is("the source has " + word, found.find() ? 1 : 0, 0);
        }
        Matcher imports = Pattern.compile("\\bimport\\s+([\\w.]+)").matcher(code);
        while (imports.find()) {
            Due.is("import " + imports.group(1), imports.group(1).equals("java.util.Arrays") ? 1 : 0, 1);
        }
        for (int i = 0; i < source.length(); i++) {
            if (source.charAt(i) > 126) {
                Due.is("a sign beyond 126 at " + i, source.charAt(i), 0);
            }
        }
    }

    private static void face() {
        List<String> open = new ArrayList<>();
        List<String> hidden = new ArrayList<>();
        for (Method m : NobodyFirst.class.getDeclaredMethods()) {
            (Modifier.isPublic(m.getModifiers()) ? open : hidden).add(m.getName());
            Due.is("method " + m.getName() + " is public or private",
                m.getModifiers() & (Modifier.PUBLIC | Modifier.PRIVATE), Modifier.isPublic(m.getModifiers()) ? 1 : 2);
        }
        Due.is("public methods", open.size(), 30);
        for (Class<?> c : NobodyFirst.class.getDeclaredClasses()) {
            for (Method m : c.getDeclaredMethods()) {
                hidden.add(m.getName());
            }
            Due.is(c.getSimpleName() + " is static", Modifier.isStatic(c.getModifiers()) ? 1 : 0, 1);
            Due.is(c.getSimpleName() + " has few fields", c.getDeclaredFields().length > 25 ? 1 : 0, 0);
        }
        for (String name : hidden) {
            Due.is("hidden method " + name + " bears a public name", open.contains(name) ? 1 : 0, 0);
        }
        int constants = 0;
        for (Field f : NobodyFirst.class.getDeclaredFields()) {
            boolean isPublic = Modifier.isPublic(f.getModifiers());
            constants += isPublic ? 1 : 0;
            Due.is("field " + f.getName() + " is final", Modifier.isFinal(f.getModifiers()) ? 1 : 0, 1);
            Due.is("field " + f.getName(), Modifier.isPrivate(f.getModifiers()) || isPublic ? 1 : 0, 1);
        }
        Due.is("public constants", constants, 5);
        Constructor<?>[] made = NobodyFirst.class.getDeclaredConstructors();
        Due.is("constructors", made.length, 1);
        Due.is("classes inside", NobodyFirst.class.getDeclaredClasses().length > 11 ? 1 : 0, 0);
    }

    /** Methods of some sixty lines at most, as they are indented here; seven parameters at most. */
    private static void sizes() throws Exception {
        int begun = -1;
        int line = 0;
        String indent = "";
        for (String text : Files.readAllLines(SOURCE)) {
            line++;
            Matcher head = Pattern.compile("^( {4}| {8})(?! )[\\w\\[\\] ]+\\([^;=]*\\) \\{$").matcher(text);
            if (head.find() && begun < 0) {
                begun = line;
                indent = head.group(1);
                Due.is("parameters in line " + line, text.chars().filter(c -> c == ',').count() > 6 ? 1 : 0, 0);
            } else if (begun >= 0 && text.equals(indent + "}")) {
                Due.is("lines of the method at " + begun, line - begun > 60 ? 1 : 0, 0);
                begun = -1;
            }
        }
    }

    /** Calls that are no recursion go at most eight deep; what reads a text, part by part, counts as one. */
    private static void depth() throws Exception {
        Map<String, String> bodies = new HashMap<>();
        Matcher head = Pattern.compile("(?ms)^( {4}| {8})(?! )[\\w\\[\\] ]+ (\\w+)\\([^;{}]*\\) \\{$(.*?)^\\1\\}").matcher(code());
        while (head.find()) {
            bodies.merge(node(head.group(2)), head.group(3), String::concat);
        }
        Due.is("methods found: " + bodies.size(), bodies.size() > 80 ? 1 : 0, 1);
        for (String name : bodies.keySet()) {
            Due.is("calls of " + name + " go too deep", depthOf(name, bodies) > 8 ? 1 : 0, 0);
        }
    }

    private static String node(String name) {
        return name.matches("read(Either|Both|Denied|Behind|Sum|Term|One|Inside)") ? "read" : name;
    }

    private static int depthOf(String name, Map<String, String> bodies) {
        int deepest = 0;
        Matcher call = Pattern.compile("(\\w+)\\(").matcher(bodies.get(name));
        while (call.find()) {
            String called = node(call.group(1));
            if (!called.equals(name) && bodies.containsKey(called)) {
                deepest = Math.max(deepest, depthOf(called, bodies));
            }
        }
        return deepest + 1;
    }

    /** What an object and 512 of the dearest calls make stays far below what the room has. */
    private static void room() {
        long made = madeBy(null);
        Due.is("bytes made by an object: " + made, made > 16384 ? 1 : 0, 0);
        NobodyFirst x = Due.flat(40);
        for (int i = 0; i < 12; i++) {
            x.rider(i % 6, i, 90, 999);
        }
        Due.text(x, "spend 12+wind-place*4+slope+(store<left and place=7)*3;fill place;pace power-slope-wind;");
        x.force(1);
        madeBy(x);
        long later = madeBy(x);
        Due.is("bytes made by calls: " + later, later > 4096 ? 1 : 0, 0);
    }

    private static long madeBy(NobodyFirst x) {
        com.sun.management.ThreadMXBean meter =
            (com.sun.management.ThreadMXBean) ManagementFactory.getThreadMXBean();
        long id = Thread.currentThread().getId();
        meter.getThreadAllocatedBytes(id);
        long before = meter.getThreadAllocatedBytes(id);
        if (x == null) {
            new NobodyFirst();
        } else {
            for (int i = 0; i < 64; i++) {
                ask(x, i % 12);
            }
        }
        return meter.getThreadAllocatedBytes(id) - before;
    }

    private static void ask(NobodyFirst x, int r) {
        x.goes(r, 4095);
        x.ride(4095, 39, 0);
        x.caught(1, 4094, 39, 99, 0);
        x.clock(1, 4094, 39, 99, 101);
        x.wrong(4095, 39);
        x.turns(4095, r, 0);
        x.train(15, 0);
        x.sheet(1, 2, 40);
        x.copy(1, 0, 1, 1, 39);
        x.image();
        x.back();
        x.feed(8, 0);
        x.text();
    }
}
