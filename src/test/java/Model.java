import java.util.ArrayList;
import java.util.Arrays;
import java.util.List;

/** The document once more, written another way: kinds as classes, texts read by states, rides as lists. */
final class Model {
    static class Rider {
        int kind, house, number, power, store;
        boolean[] filmed = new boolean[40];

        boolean works(int store, int left) { return store > 100; }

        int stays() { return 1; }

        int ends() { return power; }
    }

    static class Puller extends Rider {
        @Override boolean works(int store, int left) { return store > 20; }

        @Override int stays() { return super.stays() + number / 3; }

        @Override int ends() { return super.ends() - number; }
    }

    static class Sitter extends Rider {
        @Override boolean works(int store, int left) { return super.works(store, left) && left <= number; }

        @Override int ends() { return super.ends() + number; }
    }

    static final class Refuser extends Sitter {
        @Override boolean works(int store, int left) { return false; }

        @Override int ends() { return super.ends() + 1; }
    }

    static final class Fast extends Rider {
        @Override boolean works(int store, int left) { return super.works(store, left) && left > number; }

        @Override int ends() { return super.ends() + 3 * number; }
    }

    static final class Closer extends Puller {
        @Override boolean works(int store, int left) { return super.works(store, left) || left <= number; }

        @Override int stays() { return 2 * super.stays(); }
    }

    private static final Class<?>[] KINDS =
        {Rider.class, Puller.class, Sitter.class, Refuser.class, Fast.class, Closer.class};
    private static final long NO = NobodyFirst.NO;

    private final List<int[]> road = new ArrayList<>();
    private final List<Rider> riders = new ArrayList<>();
    private final StringBuilder tape = new StringBuilder();
    private final List<String> texts = new ArrayList<>();
    private final Object[] sheets = new Object[4];
    private int rule = 0;
    private int imageRule = -1;
    private final List<int[]> imageNumbers = new ArrayList<>();
    private final List<boolean[]> imageFilmed = new ArrayList<>();

    Model() {
        texts.add("spend 12 + wind - place * 4 + slope ; fill place ; pace power - slope - wind ;");
    }

    private static boolean in(int least, int v, int most) { return least <= v && v <= most; }

    private static int bound(int least, int v, int most) { return v < least ? least : v > most ? most : v; }

    private boolean isRider(int r) { return in(0, r, riders.size() - 1); }

    private boolean isTenth(int t) { return in(0, t, road.size() - 1); }

    private boolean isGroup(int g) { return g > 0 && g < 1 << riders.size(); }

    private static List<Integer> members(int g) {
        List<Integer> all = new ArrayList<>();
        for (int i = 0; i < 31; i++) {
            if ((g & 1 << i) != 0) { all.add(i); }
        }
        return all;
    }

    private boolean isSpan(int tenths) {
        return tenths >= 0 && isTenth(tenths / 100) && isTenth(tenths % 100) && tenths / 100 <= tenths % 100;
    }

    // ---- the road, riders

    int tenth(int slope, int wind, int wide) {
        if (!in(-9, slope, 9) || !in(0, wind, 9) || !in(1, wide >> 1, 20)) { return -2; }
        if (road.size() == 40) { return -4; }
        road.add(new int[] {slope, wind, wide & 1, wide >> 1});
        return road.size() - 1;
    }

    int rider(int kind, int house, int power, int store) {
        if (!in(0, kind, 5) || !in(0, house, 39) || !in(1, power, 99) || !in(0, store, 999)) { return -2; }
        if (riders.size() == 12) { return -4; }
        Rider r;
        switch (kind) {
            case 1: r = new Puller(); break;
            case 2: r = new Sitter(); break;
            case 3: r = new Refuser(); break;
            case 4: r = new Fast(); break;
            case 5: r = new Closer(); break;
            default: r = new Rider();
        }
        r.kind = kind;
        r.house = house / 10;
        r.number = house % 10;
        r.power = power;
        r.store = store;
        riders.add(r);
        return riders.size() - 1;
    }

    int set(int rider, int what, int v) {
        if (!isRider(rider)) { return -2; }
        Rider r = riders.get(rider);
        int was;
        if (what == 0 && in(1, v, 99)) {
            was = r.power;
            r.power = v;
        } else if (what == 1 && in(0, v, 999)) {
            was = r.store;
            r.store = v;
        } else {
            return -2;
        }
        return was;
    }

    private static boolean works(Rider r, int store, int left) { return store != 0 && r.works(store, left); }

    private static int ends(Rider r) { return Math.max(0, r.ends()); }

    int told(int rider, int left, int what) {
        if (!isRider(rider) || !in(0, left, 40) || !in(0, what, 7)) { return -2; }
        Rider r = riders.get(rider);
        int[] all = {r.kind, r.house, r.power, r.store, r.number, works(r, r.store, left) ? 1 : 0, r.stays(), ends(r)};
        return all[what];
    }

    int house(int house) {
        if (!in(0, house, 3)) { return -2; }
        int bits = 0;
        for (int i = 0; i < riders.size(); i++) {
            if (riders.get(i).house == house) { bits += 1 << i; }
        }
        return bits;
    }

    // ---- texts

    int feed(int n, long bytes) {
        if (!in(1, n, 8)) { return -2; }
        if (tape.length() + n > 160) { return -4; }
        for (int i = 0; i < n; i++) {
            tape.append((char) (bytes & 255));
            bytes >>>= 8;
        }
        return tape.length();
    }

    int text() {
        if (texts.size() == 6) { return -4; }
        String s = tape.toString();
        tape.setLength(0);
        int fault = fault(s);
        if (fault >= 0) { return -100 - fault; }
        texts.add(s);
        return texts.size() - 1;
    }

    private static final List<String> NAMES = Arrays.asList("power", "place", "slope", "wind", "store", "left");
    private static final List<String> KEYS = Arrays.asList("spend", "fill", "pace", "or", "and", "not");

    /** Tokens with their places; one that is none such is "?"; the last is "" at the size. */
    private static List<String> tokens(String s, List<Integer> places) {
        List<String> all = new ArrayList<>();
        int i = 0;
        while (i < s.length()) {
            char c = s.charAt(i);
            if (c == ' ' || c == '\n') {
                i++;
                continue;
            }
            int j = i + 1;
            String token;
            if (c >= 'a' && c <= 'z') {
                while (j < s.length() && s.charAt(j) >= 'a' && s.charAt(j) <= 'z') { j++; }
                token = s.substring(i, j);
                if (!NAMES.contains(token) && !KEYS.contains(token)) { token = "?"; }
            } else if (c >= '0' && c <= '9') {
                while (j < s.length() && s.charAt(j) >= '0' && s.charAt(j) <= '9') { j++; }
                token = j - i > 4 ? "?" : s.substring(i, j);
            } else {
                token = "();+-*<=".indexOf(c) >= 0 ? String.valueOf(c) : "?";
            }
            all.add(token);
            places.add(i);
            i = j;
        }
        all.add("");
        places.add(s.length());
        return all;
    }

    private static boolean isOperand(String token) {
        return NAMES.contains(token) || !token.isEmpty() && Character.isDigit(token.charAt(0));
    }

    /** An E level: how many nots and minuses are open in it, whether a comparison stands, whether a not may. */
    private static final class Level {
        int nots, minuses;
        boolean compared, notMay = true;
    }

    private static int fault(String s) {
        List<Integer> places = new ArrayList<>();
        List<String> tokens = tokens(s, places);
        int i = 0;
        for (String key : KEYS.subList(0, 3)) {
            if (!tokens.get(i).equals(key)) { return places.get(i); }
            int end = endOfE(tokens, i + 1);
            if (end < 0) { return places.get(-end); }
            i = end + 1;
        }
        return tokens.get(i).isEmpty() ? -1 : places.get(i);
    }

    /** The number of the ; behind an E, or less than 0: that of the token that can't stand there. */
    private static int endOfE(List<String> tokens, int i) {
        List<Level> levels = new ArrayList<>();
        levels.add(new Level());
        boolean operand = true;
        while (true) {
            Level now = levels.get(levels.size() - 1);
            String token = tokens.get(i);
            int open = levels.size() - 1;
            for (Level l : levels) { open += l.nots + l.minuses; }
            if (operand) {
                if (isOperand(token)) {
                    now.minuses = 0;
                    operand = false;
                } else if (token.equals("-") && open < 5) {
                    now.minuses++;
                    now.notMay = false;
                } else if (token.equals("(") && open < 5) {
                    levels.add(new Level());
                } else if (token.equals("not") && now.notMay && open < 5) {
                    now.nots++;
                } else {
                    return -i;
                }
            } else if (token.equals("+") || token.equals("-") || token.equals("*")) {
                now.notMay = false;
                operand = true;
            } else if ((token.equals("<") || token.equals("=")) && !now.compared) {
                now.compared = true;
                now.notMay = false;
                operand = true;
            } else if (token.equals("and") || token.equals("or")) {
                levels.set(levels.size() - 1, new Level());
                // A minus can't be open here, but what is around it can.
                operand = true;
            } else if (token.equals(")") && levels.size() > 1) {
                levels.remove(levels.size() - 1);
                levels.get(levels.size() - 1).minuses = 0;
            } else if (token.equals(";") && levels.size() == 1) {
                return i;
            } else {
                return -i;
            }
            i++;
        }
    }

    int force(int text) {
        if (!in(0, text, texts.size() - 1)) { return -2; }
        int was = rule;
        rule = text;
        return was;
    }

    /** Works a good text out while it reads it. */
    private static final class Sayer {
        final List<String> tokens;
        final int[] values;
        int i;

        Sayer(String text, int key, int[] itsValues) {
            tokens = tokens(text, new ArrayList<>());
            values = itsValues;
            i = tokens.indexOf(KEYS.get(key)) + 1;
        }

        boolean eats(String token) {
            if (!tokens.get(i).equals(token)) { return false; }
            i++;
            return true;
        }

        int either() {
            int v = both();
            while (eats("or")) { v = (both() != 0 | v != 0) ? 1 : 0; }
            return v;
        }

        int both() {
            int v = denied();
            while (eats("and")) { v = (denied() != 0 & v != 0) ? 1 : 0; }
            return v;
        }

        int denied() {
            if (eats("not")) { return denied() == 0 ? 1 : 0; }
            int v = sum();
            if (eats("<")) { return v < sum() ? 1 : 0; }
            if (eats("=")) { return v == sum() ? 1 : 0; }
            return v;
        }

        int sum() {
            int v = term();
            while (true) {
                if (eats("+")) { v += term(); } else if (eats("-")) { v -= term(); } else { return v; }
            }
        }

        int term() {
            int v = one();
            while (eats("*")) { v *= one(); }
            return v;
        }

        int one() {
            if (eats("-")) { return -one(); }
            if (eats("(")) {
                int v = either();
                i++;
                return v;
            }
            String token = tokens.get(i++);
            int name = NAMES.indexOf(token);
            return name >= 0 ? values[name] : Integer.parseInt(token);
        }
    }

    private int comesTo(int key, int rider, int store, int t, int place) {
        int[] tenth = road.get(t);
        int shelter = tenth[2] == 1 && place >= tenth[3] ? 0 : place;
        int[] values = {riders.get(rider).power, shelter, tenth[0], tenth[1], store, road.size() - t};
        return bound(key == 2 ? 1 : 0, new Sayer(texts.get(rule), key, values).either(), 99);
    }

    int says(int rider, int tenth, int place, int key) {
        if (!isRider(rider) || !isTenth(tenth) || !in(0, place, 11) || !in(0, key, 2)) { return -2; }
        return comesTo(key, rider, riders.get(rider).store, tenth, place);
    }

    // ---- rides

    private final class Ridden {
        final int[] stores = new int[12];
        final int[] fronts = new int[40];
        final int[] paces = new int[40];
        List<Integer> row;

        Ridden(int group, int from, int to) {
            row = members(group);
            for (int r : row) { stores[r] = riders.get(r).store; }
            int been = 0;
            for (int t = from; t <= to; t++) {
                fronts[t] = -1;
                paces[t] = 1;
                if (row.isEmpty()) { continue; }
                int left = road.size() - t;
                boolean some = false;
                for (int r : row) { some |= works(riders.get(r), stores[r], left); }
                for (int k = row.size(); some && k > 0; k--) {
                    Rider f = riders.get(row.get(0));
                    if (works(f, stores[row.get(0)], left) && been < f.stays()) { break; }
                    row.add(row.remove(0));
                    been = 0;
                }
                int front = row.get(0);
                fronts[t] = front;
                been++;
                paces[t] = comesTo(2, front, stores[front], t, 0);
                List<Integer> stay = new ArrayList<>();
                for (int p = 0; p < row.size(); p++) {
                    int r = row.get(p);
                    int now = stores[r];
                    stores[r] = bound(0, now - comesTo(0, r, now, t, p) + comesTo(1, r, now, t, p), 999);
                    if (stores[r] > 0) { stay.add(r); }
                }
                row = stay;
                if (row.isEmpty() || row.get(0) != front) { been = 0; }
            }
        }

        int left() {
            int bits = 0;
            for (int r : row) { bits |= 1 << r; }
            return bits;
        }
    }

    private Ridden rideOf(int group, int tenths) { return new Ridden(group, tenths / 100, tenths % 100); }

    int ride(int group, int tenths, int what) {
        if (!isGroup(group) || !isSpan(tenths) || !in(0, what, 2)) { return -2; }
        Ridden r = rideOf(group, tenths);
        int far = 0;
        for (int t = tenths / 100; t <= tenths % 100; t++) { far += r.paces[t]; }
        return what == 0 ? far : what == 1 ? r.left() : r.fronts[tenths % 100];
    }

    long spent(int group, int tenths, int rider) {
        if (!isGroup(group) || !isSpan(tenths) || !members(group).contains(rider)) { return NO; }
        return riders.get(rider).store - rideOf(group, tenths).stores[rider];
    }

    int ridden(int group, int tenths) {
        if (!isGroup(group) || !isSpan(tenths)) { return -2; }
        Ridden ridden = rideOf(group, tenths);
        for (int r : members(group)) { riders.get(r).store = ridden.stores[r]; }
        return ridden.left();
    }

    private boolean isChase(int group, int other, int tenths, int gap) {
        return isGroup(group) && isGroup(other) && (group & other) == 0 && isSpan(tenths) && in(0, gap, 9999);
    }

    /** The gaps as the tenths begin, and behind the last one. */
    private int[] gaps(int group, int other, int from, int to, int gap) {
        Ridden one = new Ridden(group, from, to);
        Ridden two = new Ridden(other, from, to);
        int[] gaps = new int[41];
        gaps[from] = gap;
        for (int t = from; t <= to; t++) { gaps[t + 1] = gaps[t] + one.paces[t] - two.paces[t]; }
        return gaps;
    }

    private static int firstCaught(int[] gaps, int from, int to) {
        for (int t = from; t <= to; t++) {
            if (gaps[t + 1] <= 0) { return t; }
        }
        return -1;
    }

    long caught(int group, int other, int tenths, int gap, int what) {
        if (!isChase(group, other, tenths, gap) || !in(0, what, 1)) { return NO; }
        int[] gaps = gaps(group, other, tenths / 100, tenths % 100, gap);
        return what == 1 ? gaps[tenths % 100 + 1] : firstCaught(gaps, tenths / 100, tenths % 100);
    }

    long worth(int rider, int tenth, int place) {
        if (!isRider(rider) || !isTenth(tenth) || !in(0, place, 11)) { return NO; }
        return says(rider, tenth, 0, 0) - says(rider, tenth, 0, 1)
            - (says(rider, tenth, place, 0) - says(rider, tenth, place, 1));
    }

    long turns(int group, int tenth, int what) {
        if (!isGroup(group) || !isTenth(tenth) || !in(0, what, 1)) { return NO; }
        long best = Long.MAX_VALUE;
        int who = -1;
        for (int front : members(group)) {
            List<Integer> row = members(group & ~(1 << front));
            row.add(0, front);
            long loss = 0;
            for (int p = 0; p < row.size(); p++) {
                loss += says(row.get(p), tenth, p, 0) - says(row.get(p), tenth, p, 1);
            }
            if (loss < best) {
                best = loss;
                who = front;
            }
        }
        return what == 0 ? who : best;
    }

    // ---- games, ends

    private int at(int sheet, int i) {
        Object s = sheets[sheet];
        return s instanceof byte[] ? ((byte[]) s)[i] : s instanceof short[] ? ((short[]) s)[i] : ((int[]) s)[i];
    }

    int game(int group, int sheet, int what) {
        int n = members(group).size();
        if (!isGroup(group) || !in(2, n, 3) || !in(0, sheet, 3) || !in(0, what, 1)) { return -2; }
        if (sheets[sheet] == null) { return -11; }
        if (java.lang.reflect.Array.getLength(sheets[sheet]) != (n == 2 ? 8 : 24)) { return -2; }
        int rests = 0;
        int good = 0;
        long[] sums = new long[8];
        for (int c = 0; c < (n == 2 ? 4 : 8); c++) {
            boolean rest = true;
            for (int i = 0; i < n; i++) {
                sums[c] += at(sheet, c * n + i);
                int alone = (c & 1 << i) != 0 ? c - (1 << i) : c + (1 << i);
                if (at(sheet, alone * n + i) > at(sheet, c * n + i)) { rest = false; }
            }
            if (rest) { rests += 1 << c; }
            if (sums[c] > sums[good]) { good = c; }
        }
        return what == 0 ? rests : good;
    }

    int goes(int rider, int group) {
        if (!isRider(rider) || !isGroup(group)) { return -2; }
        int last = road.size() - 1;
        for (int t = 0; t <= last; t++) {
            Ridden alone = new Ridden(1 << rider, t, last);
            int[] gaps = gaps(1 << rider, group & ~(1 << rider), t, last, 0);
            if (alone.stores[rider] > 0 && firstCaught(gaps, t, last) == -1) { return t; }
        }
        return -1;
    }

    int train(int group, int what) {
        List<Integer> who = members(group);
        if (!isGroup(group) || !in(2, who.size(), 4) || !in(0, what, 1)) { return -2; }
        int most = -1;
        int order = 0;
        int codes = (int) Math.pow(12, who.size());
        for (int code = 0; code < codes; code++) {
            int seen = 0;
            int has = 0;
            for (int place = codes / 12; place > 0; place /= 12) {
                int r = code / place % 12;
                seen |= 1 << r;
                if (r < riders.size()) { has = has / 2 + ends(riders.get(r)); }
            }
            if (seen == group && has > most) {
                most = has;
                order = code;
            }
        }
        return what == 0 ? order : most;
    }

    int split(int group, int tenth) {
        if (!isGroup(group) || !isTenth(tenth)) { return -2; }
        int n = members(group).size();
        return road.get(tenth)[2] == 0 || n <= road.get(tenth)[3] ? 0 : n - road.get(tenth)[3];
    }

    int film(int rider, int tenth, int is) {
        if (!isRider(rider) || !isTenth(tenth) || !in(0, is, 1)) { return -2; }
        boolean[] filmed = riders.get(rider).filmed;
        int was = filmed[tenth] ? 1 : 0;
        filmed[tenth] = is == 1;
        return was;
    }

    int wrong(int group, int tenths) {
        if (!isGroup(group) || !isSpan(tenths)) { return -2; }
        Ridden ridden = rideOf(group, tenths);
        for (int t = tenths / 100; t <= tenths % 100; t++) {
            for (int r : members(group)) {
                if (riders.get(r).filmed[t] && ridden.fronts[t] != r) { return t; }
            }
        }
        return -1;
    }

    long clock(int group, int other, int tenths, int gap, int rule) {
        int m = rule % 100;
        int k = (rule - m) / 100;
        if (!isChase(group, other, tenths, gap) || !in(1, k, 99) || !in(1, m, 20)) { return NO; }
        int[] gaps = gaps(group, other, tenths / 100, tenths % 100, gap);
        long bits = 0;
        for (int t = tenths / 100; t <= tenths % 100; t++) {
            if (gaps[t] <= k * (road.size() - t) / m) { bits += 1L << t; }
        }
        return bits;
    }

    int image() {
        imageRule = rule;
        imageNumbers.clear();
        imageFilmed.clear();
        for (Rider r : riders) {
            imageNumbers.add(new int[] {r.power, r.store});
            imageFilmed.add(r.filmed.clone());
        }
        return riders.size();
    }

    int back() {
        if (imageRule < 0) { return -3; }
        rule = imageRule;
        for (int i = 0; i < imageNumbers.size(); i++) {
            riders.get(i).power = imageNumbers.get(i)[0];
            riders.get(i).store = imageNumbers.get(i)[1];
            riders.get(i).filmed = imageFilmed.get(i).clone();
        }
        return riders.size();
    }

    int count(int what) {
        if (!in(0, what, 6)) { return -2; }
        int filmed = 0;
        int stores = 0;
        for (Rider r : riders) {
            stores += r.store;
            for (boolean f : r.filmed) { filmed += f ? 1 : 0; }
        }
        int[] all = {road.size(), riders.size(), texts.size(), tape.length(), rule, filmed, stores};
        return all[what];
    }

    // ---- the host

    int sheet(int sheet, int sort, int n) {
        if (!in(0, sheet, 3) || !in(-1, sort, 2) || sort >= 0 && n > 40) { return -2; }
        if (sort >= 0 && n < 0) { return -14; }
        sheets[sheet] = sort < 0 ? null : sort == 0 ? new byte[n] : sort == 1 ? (Object) new short[n] : new int[n];
        return 1;
    }

    int cell(int sheet, int i, int v) {
        if (!in(0, sheet, 3)) { return -2; }
        Object s = sheets[sheet];
        if (s == null) { return -11; }
        if (!in(0, i, java.lang.reflect.Array.getLength(s) - 1)) { return -12; }
        if (s instanceof byte[]) {
            ((byte[]) s)[i] = (byte) v;
        } else if (s instanceof short[]) {
            ((short[]) s)[i] = (short) v;
        } else {
            ((int[]) s)[i] = v;
        }
        return 1;
    }

    /** The host's own copy answers what is outside, and what is of another sort. */
    int copy(int sheet, int i, int other, int j, int n) {
        if (!in(0, sheet, 3) || !in(0, other, 3)) { return -2; }
        try {
            System.arraycopy(sheets[sheet], i, sheets[other], j, n);
            return n;
        } catch (NullPointerException e) {
            return -11;
        } catch (ArrayStoreException e) {
            return -13;
        } catch (IndexOutOfBoundsException e) {
            return -12;
        }
    }

    int tenths(int sheet, int sort, int from, int n) {
        if (!in(0, sheet, 3) || !in(0, sort, 2) || !in(0, n, 12)) { return -2; }
        Object s = sheets[sheet];
        if (s == null) { return -11; }
        if (s.getClass() != new Class<?>[] {byte[].class, short[].class, int[].class}[sort]) { return -13; }
        int came = 0;
        for (int k = 0; k < n; k++) {
            int[] three = new int[3];
            for (int d = 0; d < 3; d++) {
                long at = (long) from + 3 * k + d;
                if (at < 0 || at >= java.lang.reflect.Array.getLength(s)) { return -12; }
                three[d] = at(sheet, (int) at);
            }
            if (tenth(three[0], three[1], three[2]) >= 0) { came++; }
        }
        return came;
    }

    int taken(int rider, int k) {
        if (!in(0, k, 5)) { return -2; }
        if (!isRider(rider)) { return -11; }
        return KINDS[k].isInstance(riders.get(rider)) ? riders.get(rider).number : -13;
    }
}
