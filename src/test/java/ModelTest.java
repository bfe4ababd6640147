import java.util.Random;

/** Runs of calls made up from seeds: the class answers as the model does, and never throws. */
public final class ModelTest {
    private static final int RUNS = 400;
    private static final int CALLS = 512;
    private static final int CALL_KINDS = 31;
    private static final String[] ATOMS = {"power", "place", "slope", "wind", "store", "left", "0", "1", "7", "12",
        "100", "9999"};
    private static final String[] BITS = {"spend ", "fill ", "pace ", " or ", " and ", " not ", "(", ")", ";", "+", "-",
        "*", "<", "=", " ", "\n", "12345", "x", "?", "power", "place", "3", "\u00e9"};

    private final Random random;
    private final NobodyFirst x = new NobodyFirst();
    private final Model m = new Model();
    private final String run;

    private ModelTest(long seed) {
        random = new Random(seed);
        run = "run " + seed + ": ";
    }

    public static void main(String[] args) {
        int runs = args.length > 0 ? Integer.parseInt(args[0]) : RUNS;
        for (int seed = 0; seed < runs; seed++) {
            new ModelTest(seed).go();
        }
        Due.end();
    }

    private void go() {
        boolean wild = random.nextInt(6) == 0;
        if (!wild) {
            furnish();
        }
        for (int i = 0; i < (wild ? CALLS : CALLS - 60); i++) {
            call(random.nextInt(CALL_KINDS));
        }
    }

    /** Most runs begin with some road, riders and a text. */
    private void furnish() {
        int tenths = random.nextInt(random.nextInt(4) == 0 ? 41 : 9);
        for (int i = 0; i < tenths; i++) {
            call(1);
        }
        int riders = 1 + random.nextInt(random.nextInt(4) == 0 ? 12 : 5);
        for (int i = 0; i < riders; i++) {
            call(2);
        }
        call(7);
        call(9);
    }

    // ---- numbers, mostly such that a call isn't refused

    private boolean rarely() {
        return random.nextInt(25) == 0;
    }

    private int wildly() {
        int[] odd = {-1, 0, 1, 2, 5, 12, 40, 41, 99, 100, 101, 999, 1000, 4096, Integer.MAX_VALUE, Integer.MIN_VALUE,
            Integer.MAX_VALUE - 6, -100};
        return rarely() ? random.nextInt() : odd[random.nextInt(odd.length)];
    }

    private int from(int least, int most) {
        return rarely() ? wildly() : least + random.nextInt(Math.max(1, most - least + 1));
    }

    private int aRider() {
        return from(0, m.count(1) - 1);
    }

    private int aTenth() {
        return from(0, m.count(0) - 1);
    }

    private int aGroup() {
        return from(1, (1 << m.count(1)) - 1);
    }

    private int without(int group) {
        int other = aGroup() & ~group;
        return rarely() ? aGroup() : other;
    }

    private int aSpan() {
        int a = aTenth();
        int b = aTenth();
        if (rarely()) {
            return wildly();
        }
        return random.nextInt(3) == 0 ? Math.max(0, m.count(0) - 1) : 100 * Math.min(a, b) + Math.max(a, b);
    }

    private int aGap() {
        return random.nextInt(3) == 0 ? from(0, 9999) : from(0, 300);
    }

    // ---- texts

    private String some(int depth) {
        int way = depth > 4 ? 0 : random.nextInt(9);
        switch (way) {
            case 1: return some(depth + 1) + "+" + some(depth + 1);
            case 2: return some(depth + 1) + " - " + some(depth + 1);
            case 3: return some(depth + 1) + "*" + some(depth + 1);
            case 4: return "(" + some(depth + 1) + (random.nextBoolean() ? " < " : "=") + some(depth + 1) + ")";
            case 5: return "-" + some(depth + 1);
            case 6: return "(" + some(depth + 1) + " and " + some(depth + 1) + ")";
            case 7: return "(not " + some(depth + 1) + ")";
            case 8: return "(" + some(depth + 1) + "\nor not " + some(depth + 1) + ")";
            default: return ATOMS[random.nextInt(ATOMS.length)];
        }
    }

    private String aText() {
        String text = "spend " + some(1) + " ; fill " + some(2) + ";pace " + some(1) + ";";
        if (random.nextInt(3) == 0) {
            int cut = random.nextInt(text.length() + 1);
            int on = Math.min(text.length(), cut + random.nextInt(4));
            text = text.substring(0, cut) + BITS[random.nextInt(BITS.length)] + text.substring(on);
        }
        if (random.nextInt(6) == 0) {
            StringBuilder b = new StringBuilder("spend ");
            for (int n = random.nextInt(12); n >= 0; n--) {
                b.append(BITS[random.nextInt(BITS.length)]);
            }
            text = b.toString();
        }
        return text;
    }

    private void feedAndRead() {
        String text = aText();
        for (int i = 0; i < text.length(); i += 8) {
            int n = Math.min(8, text.length() - i);
            long bytes = random.nextBoolean() || n == 8 ? 0 : -1L << 8 * n;
            for (int k = 0; k < n; k++) {
                bytes |= (long) text.charAt(i + k) << 8 * k;
            }
            due("feed", x.feed(n, bytes), m.feed(n, bytes));
        }
        due("text of " + text, x.text(), m.text());
    }

    // ---- calls

    private void due(String call, long got, long want) {
        Due.is(run + call, got, want);
    }

    private void call(int kind) {
        if (kind < 11) {
            early(kind);
        } else if (kind < 21) {
            middle(kind);
        } else {
            late(kind);
        }
    }

    private void early(int kind) {
        int a = aRider();
        int b = from(0, 9);
        int c = from(1, 99);
        int d = random.nextBoolean() ? from(0, 999) : from(0, 150);
        switch (kind) {
            case 0: due("count " + b, x.count(b), m.count(b)); break;
            case 1: {
                int slope = from(-9, 9);
                int wide = random.nextBoolean() ? from(2, 41) : from(2, 9);
                due("tenth", x.tenth(slope, b, wide), m.tenth(slope, b, wide));
                break;
            }
            case 2: {
                int rank = from(0, 5);
                int house = from(0, 39);
                due("rider", x.rider(rank, house, c, d), m.rider(rank, house, c, d));
                break;
            }
            case 3: {
                int what = from(0, 1);
                int v = what == 0 ? c : d;
                due("set", x.set(a, what, v), m.set(a, what, v));
                break;
            }
            case 4: {
                int left = from(0, 40);
                int what = from(0, 7);
                due("told " + what, x.told(a, left, what), m.told(a, left, what));
                break;
            }
            case 5: due("house", x.house(b & 3), m.house(b & 3)); break;
            case 6: {
                long bytes = random.nextLong();
                int n = rarely() ? 8 : from(0, 1);
                due("feed", x.feed(n, bytes), m.feed(n, bytes));
                break;
            }
            case 7: feedAndRead(); break;
            case 8: due("text", x.text(), m.text()); break;
            case 9: {
                int text = from(0, m.count(2) - 1);
                due("force", x.force(text), m.force(text));
                break;
            }
            default: {
                int t = aTenth();
                int place = from(0, 11);
                int key = from(0, 2);
                due("says", x.says(a, t, place, key), m.says(a, t, place, key));
            }
        }
    }

    private void middle(int kind) {
        int group = aGroup();
        int other = without(group);
        int span = aSpan();
        int gap = aGap();
        int a = aRider();
        int t = aTenth();
        int one = from(0, 1);
        switch (kind) {
            case 11: {
                int what = from(0, 2);
                due("ride " + what, x.ride(group, span, what), m.ride(group, span, what));
                break;
            }
            case 12: due("spent", x.spent(group, span, a), m.spent(group, span, a)); break;
            case 13:
                if (random.nextInt(3) == 0) {
                    due("ridden", x.ridden(group, span), m.ridden(group, span));
                }
                break;
            case 14:
                due("caught", x.caught(group, other, span, gap, one), m.caught(group, other, span, gap, one));
                break;
            case 15: {
                int place = from(0, 11);
                due("worth", x.worth(a, t, place), m.worth(a, t, place));
                break;
            }
            case 16: due("turns", x.turns(group, t, one), m.turns(group, t, one)); break;
            case 17: {
                int few = random.nextBoolean() ? 3 : random.nextBoolean() ? 7 : group;
                int sheet = from(0, 3);
                if (random.nextBoolean()) {
                    fillSheet(sheet, random.nextBoolean() ? 8 : 24);
                }
                due("game", x.game(few, sheet, one), m.game(few, sheet, one));
                break;
            }
            case 18: due("goes", x.goes(a, group), m.goes(a, group)); break;
            case 19: due("train", x.train(group, one), m.train(group, one)); break;
            default: due("split", x.split(group, t), m.split(group, t));
        }
    }

    private void fillSheet(int sheet, int n) {
        int sort = from(0, 2);
        due("sheet", x.sheet(sheet, sort, n), m.sheet(sheet, sort, n));
        boolean few = random.nextBoolean();
        for (int i = 0; i < n; i++) {
            int v = few ? random.nextInt(3) : random.nextInt();
            due("cell", x.cell(sheet, i, v), m.cell(sheet, i, v));
        }
    }

    private void late(int kind) {
        int group = aGroup();
        int span = aSpan();
        int a = aRider();
        int t = aTenth();
        int one = from(0, 1);
        int s = from(0, 3);
        int z = from(0, 3);
        int sort = from(-1, 2);
        int n = from(0, 12);
        int i = from(0, 12);
        int j = from(0, 12);
        switch (kind) {
            case 21: due("film", x.film(a, t, one), m.film(a, t, one)); break;
            case 22: due("wrong", x.wrong(group, span), m.wrong(group, span)); break;
            case 23: {
                int other = without(group);
                int gap = aGap();
                int rule = rarely() ? wildly() : 100 * from(1, 99) + from(1, 20);
                due("clock", x.clock(group, other, span, gap, rule), m.clock(group, other, span, gap, rule));
                break;
            }
            case 24: due("image", x.image(), m.image()); break;
            case 25: due("back", x.back(), m.back()); break;
            case 26: {
                int size = from(-1, 41);
                due("sheet", x.sheet(s, sort, size), m.sheet(s, sort, size));
                break;
            }
            case 27: {
                int v = random.nextBoolean() ? from(-9, 41) : random.nextInt();
                due("cell", x.cell(s, i, v), m.cell(s, i, v));
                break;
            }
            case 28: due("copy", x.copy(s, i, z, j, n), m.copy(s, i, z, j, n)); break;
            case 29: due("tenths", x.tenths(s, sort, i, n % 4), m.tenths(s, sort, i, n % 4)); break;
            default: {
                int k = from(0, 5);
                due("taken", x.taken(a, k), m.taken(a, k));
            }
        }
    }
}
