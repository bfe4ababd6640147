import java.lang.reflect.InvocationTargetException;
import java.lang.reflect.Method;
import java.util.ArrayList;
import java.util.HashMap;
import java.util.List;
import java.util.Map;
import java.util.function.Consumer;

/**
 * A sentence of the document, and runs of calls that ask for what it says at its bounds.
 * Each run has two objects: one gets every call, the other one is spared those that must be refused. What they answer
 * to the same calls later on tells whether a refused call changed something.
 */
final class Sentence {
    private static final int MOST_CALLS = 512;
    private static final List<String> QUOTED = new ArrayList<>();
    private static final Map<String, Method> CALLS = new HashMap<>();

    private final String words;
    private NobodyFirst asked;
    private NobodyFirst spared;
    private int calls;
    private int refused;

    private Sentence(String itsWords) {
        words = itsWords;
        begin();
    }

    /** What the sentence says is asked by a test, which begins on a new object. */
    static void of(String words, Consumer<Sentence> test) {
        QUOTED.add(words);
        Sentence s = new Sentence(words);
        test.accept(s);
        s.end();
    }

    static List<String> quoted() {
        return QUOTED;
    }

    /** Another new object. */
    Sentence again() {
        end();
        begin();
        return this;
    }

    /** A call that is not refused. */
    Sentence is(long due, String call, long... args) {
        long got = ask(asked, call, args);
        calls++;
        Due.is(told(call, args), got, due);
        Due.is(told(call, args) + ", where refused calls were left out", ask(spared, call, args), got);
        return this;
    }

    /** A call that is refused, and changes nothing. */
    Sentence no(long refusal, String call, long... args) {
        calls++;
        refused++;
        Due.is(told(call, args), ask(asked, call, args), refusal);
        return this;
    }

    /** What a call that changes nothing answers. */
    int answer(String call, long... args) {
        calls++;
        return (int) ask(asked, call, args);
    }

    /** Calls whose answers do not matter here. */
    Sentence go(String call, long... args) {
        calls++;
        ask(asked, call, args);
        ask(spared, call, args);
        return this;
    }

    /** So many like calls that answer one more each time. */
    Sentence counted(int times, long first, String call, long... args) {
        for (int i = 0; i < times; i++) {
            is(first + i, call, args);
        }
        return this;
    }

    /** Of argument `at` the last values that are taken, and the first ones that are refused; the answers when taken. */
    Sentence bounds(int at, long least, long most, long refusal, long dueLeast, long dueMost, String call,
        long... args) {
        is(dueLeast, call, with(args, at, least));
        is(dueMost, call, with(args, at, most));
        no(refusal, call, with(args, at, least - 1));
        no(refusal, call, with(args, at, most + 1));
        no(refusal, call, with(args, at, Integer.MIN_VALUE));
        return no(refusal, call, with(args, at, Integer.MAX_VALUE));
    }

    /** Signs come behind the tape, eight at most at a time. */
    Sentence tape(String signs) {
        for (int i = 0; i < signs.length(); i += 8) {
            int n = Math.min(8, signs.length() - i);
            long bytes = 0;
            for (int k = 0; k < n; k++) {
                bytes |= (long) signs.charAt(i + k) << 8 * k;
            }
            go("feed", n, bytes);
        }
        return this;
    }

    Sentence text(long due, String signs) {
        return tape(signs).is(due, "text");
    }

    /** A text, which is the rule then. */
    Sentence rule(String signs) {
        return tape(signs).go("text").go("force", ask(asked, "count", 2) - 1);
    }

    /** On a new object: the place of the first token that can't stand in a text, which is none then. */
    Sentence fault(int place, String signs) {
        again();
        text(-100 - place, signs);
        return is(1, "count", 2).is(0, "count", 3);
    }

    /** So many flat tenths without wind, ten wide. */
    Sentence flat(int tenths) {
        for (int i = 0; i < tenths; i++) {
            go("tenth", 0, 0, 20);
        }
        return this;
    }

    /** So many riders of power 50 and store 500, of house 0 and number 0. */
    Sentence riders(int n) {
        for (int i = 0; i < n; i++) {
            go("rider", 0, 0, 50, 500);
        }
        return this;
    }

    /** A sheet with these cells. */
    Sentence cells(int sheet, int sort, int... cells) {
        go("sheet", sheet, sort, cells.length);
        for (int i = 0; i < cells.length; i++) {
            go("cell", sheet, i, cells[i]);
        }
        return this;
    }

    private void begin() {
        asked = new NobodyFirst();
        spared = new NobodyFirst();
        calls = 0;
        refused = 0;
    }

    private void end() {
        if (refused > 0) {
            lookAtAll();
        }
        Due.is("\"" + words + "\": more calls than an object is used for: " + calls, calls > MOST_CALLS ? 1 : 0, 0);
    }

    // ---- what can be seen of an object by calls, the last ones of which change it

    private void lookAtAll() {
        for (int what = 0; what <= 6; what++) {
            same("count", what);
        }
        long tenths = Math.max(0, ask(spared, "count", 0));
        long riders = Math.max(0, ask(spared, "count", 1));
        lookAtRiders(riders);
        lookAtTenths(tenths, riders);
        same("back");
        for (int r = 0; r < riders; r++) {
            same("told", r, 3, 2);
            same("told", r, 3, 3);
        }
        same("count", 4);
        same("count", 5);
        for (int sheet = 0; sheet < 4; sheet++) {
            lookAtSheet(sheet);
        }
        lookAtTenths(ask(spared, "count", 0), riders);
        same("feed", 1, ' ');
        same("text");
        same("count", 2);
    }

    private void lookAtRiders(long riders) {
        for (int r = 0; r < riders; r++) {
            for (int what = 0; what <= 4; what++) {
                same("told", r, 3, what);
            }
        }
        for (int r = 0; r < Math.min(riders, 3); r++) {
            for (int t = 0; t < 3; t++) {
                same("film", r, t, 0);
            }
        }
    }

    private void lookAtTenths(long tenths, long riders) {
        for (int t = 0; t < Math.min(tenths, 14); t++) {
            same("says", 0, t, 0, 0);
            same("says", 0, t, 5, 1);
            same("split", (1 << riders) - 1, t);
        }
    }

    private void lookAtSheet(int sheet) {
        int[] sizes = {1, 3, 6, 8, 24, 40};
        for (int size : sizes) {
            same("copy", sheet, size, sheet, size, 0);
        }
        for (int sort = 0; sort < 3; sort++) {
            same("tenths", sheet, sort, 0, 2);
        }
        same("game", 3, sheet, 0);
        same("game", 3, sheet, 1);
        same("game", 7, sheet, 0);
        same("game", 7, sheet, 1);
    }

    private void same(String call, long... args) {
        calls++;
        Due.is(told(call, args) + ", behind refused calls", ask(asked, call, args), ask(spared, call, args));
    }

    // ---- calls by their names

    private static long[] with(long[] args, int at, long v) {
        long[] row = args.clone();
        row[at] = v;
        return row;
    }

    private String told(String call, long... args) {
        StringBuilder b = new StringBuilder("\"" + words + "\": " + call + "(");
        for (int i = 0; i < args.length; i++) {
            b.append(i == 0 ? "" : ", ").append(args[i]);
        }
        return b.append(") in call ").append(calls).toString();
    }

    private static long ask(NobodyFirst x, String call, long... args) {
        Method m = method(call);
        Object[] row = new Object[args.length];
        for (int i = 0; i < args.length; i++) {
            if (m.getParameterTypes()[i] == long.class) {
                row[i] = args[i];
            } else {
                row[i] = Math.toIntExact(args[i]);
            }
        }
        try {
            return ((Number) m.invoke(x, row)).longValue();
        } catch (InvocationTargetException | IllegalAccessException e) {
            throw new IllegalStateException(call, e);
        }
    }

    private static Method method(String call) {
        if (CALLS.isEmpty()) {
            for (Method m : NobodyFirst.class.getDeclaredMethods()) {
                if (java.lang.reflect.Modifier.isPublic(m.getModifiers())) {
                    CALLS.put(m.getName(), m);
                }
            }
        }
        return CALLS.get(call);
    }
}
