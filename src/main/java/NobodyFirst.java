import java.util.Arrays;

/** Riders, their stores, a road in tenths, rides by a rule of texts, and what can be asked of them. */
public final class NobodyFirst {
    public static final int NONE = -1, BAD = -2, STATE = -3, FULL = -4;
    public static final long NO = -4611686018427387904L;

    private static final int NOTHING = -11, OUTSIDE = -12, UNLIKE = -13, BELOW = -14;
    private static final int MOST_TENTHS = 40, MOST_RIDERS = 12, MOST_TEXTS = 6, MOST_BYTES = 160;
    private static final int MOST_SHEETS = 4, MOST_CELLS = 40, MOST_STORE = 999, MOST_GAP = 9999;
    private static final int SPEND = 0, FILL = 1, PACE = 2;
    private static final int FAULT_BASE = -100;
    private static final String FIRST_RULE =
        "spend 12 + wind - place * 4 + slope ; fill place ; pace power - slope - wind ;";

    private final Road road;
    private final Team team;
    private final Tape tape;
    private final Rules rules;
    private final Ride ahead;
    private final Ride behind;
    private final Train line;
    private final Image kept;
    private final Sheet[] sheets;

    public NobodyFirst() {
        road = new Road();
        team = new Team();
        tape = new Tape();
        rules = new Rules(road, team);
        ahead = new Ride(road, team, rules);
        behind = new Ride(road, team, rules);
        line = new Train(team);
        kept = new Image();
        sheets = new Sheet[MOST_SHEETS];
        for (int i = 0; i < MOST_SHEETS; i++) {
            sheets[i] = new Sheet();
        }
        // TEXT 0 goes the way of every other text, so that the rule has one form only.
        for (int i = 0; i < FIRST_RULE.length(); i++) {
            tape.put((byte) FIRST_RULE.charAt(i));
        }
        tape.readText();
        rules.add(tape.lastText());
        tape.empty();
    }

    // ---- the road, riders

    public int tenth(int slope, int wind, int wide) {
        return road.add(slope, wind, wide);
    }

    public int rider(int kind, int house, int power, int store) {
        return team.add(kind, house, power, store);
    }

    public int set(int rider, int what, int v) {
        if (!team.has(rider) || what < 0 || what > 1) {
            return BAD;
        }
        if (what == 0 ? !isPower(v) : !isStore(v)) {
            return BAD;
        }
        int[] row = what == 0 ? team.power : team.store;
        int was = row[rider];
        row[rider] = v;
        return was;
    }

    public int told(int rider, int left, int what) {
        if (!team.has(rider) || left < 0 || left > MOST_TENTHS) {
            return BAD;
        }
        switch (what) {
            case 0: return team.kind[rider];
            case 1: return team.house[rider];
            case 2: return team.power[rider];
            case 3: return team.store[rider];
            case 4: return team.number[rider];
            case 5: return team.works(rider, team.store[rider], left) ? 1 : 0;
            case 6: return team.stays(rider);
            case 7: return team.ends(rider);
            default: return BAD;
        }
    }

    public int house(int house) {
        return house < 0 || house > 3 ? BAD : team.ofHouse(house);
    }

    // ---- texts

    public int feed(int n, long bytes) {
        if (n < 1 || n > 8) {
            return BAD;
        }
        if (n > tape.room()) {
            return FULL;
        }
        for (int i = 0; i < n; i++) {
            tape.put((byte) (bytes >> 8 * i));
        }
        return tape.size;
    }

    public int text() {
        if (rules.count >= MOST_TEXTS) {
            return FULL;
        }
        int fault = tape.readText();
        int answer = fault == NONE ? rules.add(tape.lastText()) : FAULT_BASE - fault;
        tape.empty();
        return answer;
    }

    public int force(int text) {
        if (text < 0 || text >= rules.count) {
            return BAD;
        }
        int was = rules.rule;
        rules.rule = text;
        return was;
    }

    public int says(int rider, int tenth, int place, int key) {
        if (!isSeat(rider, tenth, place) || key < SPEND || key > PACE) {
            return BAD;
        }
        return rules.comesTo(key, rider, team.store[rider], tenth, place);
    }

    // ---- rides

    public int ride(int group, int tenths, int what) {
        if (!isRide(group, tenths) || what < 0 || what > 2) {
            return BAD;
        }
        int far = ahead.rideAll(group, tenths);
        if (what == 0) {
            return far;
        }
        return what == 1 ? ahead.left() : ahead.front;
    }

    public long spent(int group, int tenths, int rider) {
        if (!isRide(group, tenths) || !team.has(rider) || (group >> rider & 1) == 0) {
            return NO;
        }
        ahead.rideAll(group, tenths);
        return team.store[rider] - ahead.store[rider];
    }

    public int ridden(int group, int tenths) {
        if (!isRide(group, tenths)) {
            return BAD;
        }
        ahead.rideAll(group, tenths);
        for (int r = 0; r < team.count; r++) {
            if ((group >> r & 1) == 1) {
                team.store[r] = ahead.store[r];
            }
        }
        return ahead.left();
    }

    public long caught(int group, int other, int tenths, int gap, int what) {
        if (!isChase(group, other, tenths, gap) || what < 0 || what > 1) {
            return NO;
        }
        int first = NONE;
        int now = gap;
        beginChase(group, other);
        for (int t = road.spanFrom(tenths); t <= road.spanTo(tenths); t++) {
            now += gained(t);
            if (now <= 0 && first == NONE) {
                first = t;
            }
        }
        return what == 0 ? first : now;
    }

    public long worth(int rider, int tenth, int place) {
        if (!isSeat(rider, tenth, place)) {
            return NO;
        }
        return rules.loss(rider, tenth, 0) - rules.loss(rider, tenth, place);
    }

    public long turns(int group, int tenth, int what) {
        if (!team.isGroup(group) || !road.has(tenth) || what < 0 || what > 1) {
            return NO;
        }
        int front = NONE;
        int least = 0;
        for (int r = 0; r < team.count; r++) {
            if ((group >> r & 1) == 1) {
                int loss = lossBehind(r, group, tenth);
                if (front == NONE || loss < least) {
                    front = r;
                    least = loss;
                }
            }
        }
        return what == 0 ? front : least;
    }

    // ---- games, ends

    public int game(int riders, int sheet, int what) {
        int n = Integer.bitCount(riders);
        if (!team.isGroup(riders) || n < 2 || n > 3 || !isSheet(sheet) || what < 0 || what > 1) {
            return BAD;
        }
        Sheet gets = sheets[sheet];
        if (gets.isMissing()) {
            return NOTHING;
        }
        if (gets.size != n << n) {
            return BAD;
        }
        return what == 0 ? restsOf(gets, n) : goodOf(gets, n);
    }

    public int goes(int rider, int group) {
        if (!team.has(rider) || !team.isGroup(group)) {
            return BAD;
        }
        for (int from = 0; from < road.size; from++) {
            if (getsAway(rider, group & ~(1 << rider), from)) {
                return from;
            }
        }
        return NONE;
    }

    public int train(int riders, int what) {
        int n = Integer.bitCount(riders);
        if (!team.isGroup(riders) || n < 2 || n > 4 || what < 0 || what > 1) {
            return BAD;
        }
        line.search(riders);
        return what == 0 ? line.order : line.has;
    }

    public int split(int group, int tenth) {
        if (!team.isGroup(group) || !road.has(tenth)) {
            return BAD;
        }
        return road.side[tenth] == 1 ? Math.max(0, Integer.bitCount(group) - road.wide[tenth]) : 0;
    }

    public int film(int rider, int tenth, int is) {
        if (!team.has(rider) || !road.has(tenth) || is < 0 || is > 1) {
            return BAD;
        }
        int was = (int) (team.filmed[rider] >> tenth & 1);
        team.filmed[rider] ^= (long) (was ^ is) << tenth;
        return was;
    }

    public int wrong(int group, int tenths) {
        if (!isRide(group, tenths)) {
            return BAD;
        }
        ahead.begin(group);
        for (int t = road.spanFrom(tenths); t <= road.spanTo(tenths); t++) {
            ahead.go(t);
            int others = ahead.front == NONE ? group : group & ~(1 << ahead.front);
            if (team.someFilmed(others, t)) {
                return t;
            }
        }
        return NONE;
    }

    public long clock(int group, int other, int tenths, int gap, int rule) {
        int k = rule / 100;
        int m = rule % 100;
        if (!isChase(group, other, tenths, gap) || k < 1 || k > 99 || m < 1 || m > 20) {
            return NO;
        }
        long bits = 0;
        int now = gap;
        beginChase(group, other);
        for (int t = road.spanFrom(tenths); t <= road.spanTo(tenths); t++) {
            if (now <= k * road.left(t) / m) {
                bits |= 1L << t;
            }
            now += gained(t);
        }
        return bits;
    }

    public int image() {
        kept.keep(team, rules);
        return team.count;
    }

    public int back() {
        if (!kept.is) {
            return STATE;
        }
        kept.layBack(team, rules);
        return team.count;
    }

    public int count(int what) {
        switch (what) {
            case 0: return road.size;
            case 1: return team.count;
            case 2: return rules.count;
            case 3: return tape.size;
            case 4: return rules.rule;
            case 5: return team.allFilmed();
            case 6: return team.allStores();
            default: return BAD;
        }
    }

    // ---- the host

    public int sheet(int sheet, int sort, int n) {
        if (!isSheet(sheet) || sort < NONE || sort > Sheet.INTS) {
            return BAD;
        }
        if (sort != NONE && n > MOST_CELLS) {
            return BAD;
        }
        if (sort != NONE && n < 0) {
            return BELOW;
        }
        sheets[sheet].become(sort, sort == NONE ? 0 : n);
        return 1;
    }

    public int cell(int sheet, int i, int v) {
        if (!isSheet(sheet)) {
            return BAD;
        }
        Sheet row = sheets[sheet];
        if (row.isMissing()) {
            return NOTHING;
        }
        if (!row.reaches(i, 1)) {
            return OUTSIDE;
        }
        row.put(i, v);
        return 1;
    }

    public int copy(int sheet, int i, int other, int j, int n) {
        if (!isSheet(sheet) || !isSheet(other)) {
            return BAD;
        }
        Sheet from = sheets[sheet];
        Sheet to = sheets[other];
        if (from.isMissing() || to.isMissing()) {
            return NOTHING;
        }
        if (from.sort != to.sort) {
            return UNLIKE;
        }
        if (!from.reaches(i, n) || !to.reaches(j, n)) {
            return OUTSIDE;
        }
        System.arraycopy(from.cells, i, to.cells, j, n);
        return n;
    }

    public int tenths(int sheet, int sort, int from, int n) {
        if (!isSheet(sheet) || sort < 0 || sort > Sheet.INTS || n < 0 || n > 12) {
            return BAD;
        }
        Sheet row = sheets[sheet];
        if (row.isMissing()) {
            return NOTHING;
        }
        if (row.sort != sort) {
            return UNLIKE;
        }
        int came = 0;
        for (int k = 0; k < n; k++) {
            // A from that is outside by itself is refused first: the sum behind it could wrap.
            if (!row.reaches(from, 3) || !row.reaches(from + 3 * k, 3)) {
                return OUTSIDE;
            }
            int at = from + 3 * k;
            if (road.add(row.cells[at], row.cells[at + 1], row.cells[at + 2]) >= 0) {
                came++;
            }
        }
        return came;
    }

    public int taken(int rider, int k) {
        if (k < 0 || k > Team.CLOSER) {
            return BAD;
        }
        if (!team.has(rider)) {
            return NOTHING;
        }
        return team.isUnder(rider, k) ? team.number[rider] : UNLIKE;
    }

    // ---- what several calls share

    private static boolean isPower(int v) {
        return v >= 1 && v <= 99;
    }

    private static boolean isStore(int v) {
        return v >= 0 && v <= MOST_STORE;
    }

    private static boolean isSheet(int sheet) {
        return sheet >= 0 && sheet < MOST_SHEETS;
    }

    private static int within(int least, int v, int most) {
        return Math.max(least, Math.min(v, most));
    }

    private boolean isSeat(int rider, int tenth, int place) {
        return team.has(rider) && road.has(tenth) && place >= 0 && place < MOST_RIDERS;
    }

    private boolean isRide(int group, int tenths) {
        return team.isGroup(group) && road.isSpan(tenths);
    }

    private boolean isChase(int group, int other, int tenths, int gap) {
        return isRide(group, tenths) && team.isGroup(other) && (group & other) == 0
            && gap >= 0 && gap <= MOST_GAP;
    }

    private void beginChase(int group, int other) {
        ahead.begin(group);
        behind.begin(other);
    }

    /** Both ride through a tenth: by how much the gap is more. */
    private int gained(int tenth) {
        ahead.go(tenth);
        behind.go(tenth);
        return ahead.pace - behind.pace;
    }

    private int lossBehind(int front, int group, int tenth) {
        int loss = rules.loss(front, tenth, 0);
        int place = 1;
        for (int r = 0; r < team.count; r++) {
            if (r != front && (group >> r & 1) == 1) {
                loss += rules.loss(r, tenth, place);
                place++;
            }
        }
        return loss;
    }

    /** The others may be nobody: they go at pace 1 then, as any group with nobody left. */
    private boolean getsAway(int rider, int others, int from) {
        int gap = 0;
        beginChase(1 << rider, others);
        for (int t = from; t < road.size; t++) {
            gap += gained(t);
            if (gap <= 0 || ahead.store[rider] == 0) {
                return false;
            }
        }
        return true;
    }

    private static int restsOf(Sheet gets, int n) {
        int rests = 0;
        for (int choice = 0; choice < 1 << n; choice++) {
            if (isRest(gets, n, choice)) {
                rests |= 1 << choice;
            }
        }
        return rests;
    }

    private static boolean isRest(Sheet gets, int n, int choice) {
        for (int i = 0; i < n; i++) {
            int otherwise = choice ^ 1 << i;
            if (gets.cells[otherwise * n + i] > gets.cells[choice * n + i]) {
                return false;
            }
        }
        return true;
    }

    private static int goodOf(Sheet gets, int n) {
        int good = NONE;
        long most = 0;
        for (int choice = 0; choice < 1 << n; choice++) {
            long all = 0;
            for (int i = 0; i < n; i++) {
                all += gets.cells[choice * n + i];
            }
            if (good == NONE || all > most) {
                good = choice;
                most = all;
            }
        }
        return good;
    }

    /** The tenths in their order. */
    private static final class Road {
        final int[] slope = new int[MOST_TENTHS];
        final int[] wind = new int[MOST_TENTHS];
        final int[] side = new int[MOST_TENTHS];
        final int[] wide = new int[MOST_TENTHS];
        int size;

        int add(int slopeHere, int windHere, int wideAndSide) {
            if (slopeHere < -9 || slopeHere > 9 || windHere < 0 || windHere > 9
                || wideAndSide < 2 || wideAndSide > 41) {
                return BAD;
            }
            if (size >= MOST_TENTHS) {
                return FULL;
            }
            slope[size] = slopeHere;
            wind[size] = windHere;
            side[size] = wideAndSide % 2;
            wide[size] = wideAndSide / 2;
            return size++;
        }

        boolean has(int tenth) {
            return tenth >= 0 && tenth < size;
        }

        boolean isSpan(int tenths) {
            return tenths >= 0 && spanFrom(tenths) <= spanTo(tenths) && spanTo(tenths) < size;
        }

        int spanFrom(int tenths) {
            return tenths / 100;
        }

        int spanTo(int tenths) {
            return tenths % 100;
        }

        int left(int tenth) {
            return size - tenth;
        }

        /** Side wind finds who has no room on the road: such a one rides as if at the front. */
        int sheltered(int tenth, int place) {
            return side[tenth] == 1 && place >= wide[tenth] ? 0 : place;
        }
    }

    /** The riders by their numbers. */
    private static final class Team {
        static final int PULLER = 1, SITTER = 2, REFUSER = 3, FAST = 4, CLOSER = 5;
        private static final int[] UNDER = {NONE, 0, 0, SITTER, 0, PULLER};

        final int[] kind = new int[MOST_RIDERS];
        final int[] house = new int[MOST_RIDERS];
        final int[] number = new int[MOST_RIDERS];
        final int[] power = new int[MOST_RIDERS];
        final int[] store = new int[MOST_RIDERS];
        /** Of each rider the tenths in which it was filmed at the front, as bits. */
        final long[] filmed = new long[MOST_RIDERS];
        int count;

        int add(int itsKind, int houseAndNumber, int itsPower, int itsStore) {
            if (itsKind < 0 || itsKind > CLOSER || houseAndNumber < 0 || houseAndNumber > 39
                || !isPower(itsPower) || !isStore(itsStore)) {
                return BAD;
            }
            if (count >= MOST_RIDERS) {
                return FULL;
            }
            kind[count] = itsKind;
            house[count] = houseAndNumber / 10;
            number[count] = houseAndNumber % 10;
            power[count] = itsPower;
            store[count] = itsStore;
            return count++;
        }

        boolean has(int rider) {
            return rider >= 0 && rider < count;
        }

        boolean isGroup(int bits) {
            return bits > 0 && bits >> count == 0;
        }

        boolean isUnder(int rider, int above) {
            int k = kind[rider];
            for (int i = 0; i < UNDER.length && k != above && k > 0; i++) {
                k = UNDER[k];
            }
            return k == above;
        }

        int ofHouse(int which) {
            int bits = 0;
            for (int r = 0; r < count; r++) {
                if (house[r] == which) {
                    bits |= 1 << r;
                }
            }
            return bits;
        }

        /** The store is told apart, since in a ride it is not the team's own. */
        boolean works(int rider, int storeNow, int left) {
            boolean late = left <= number[rider];
            switch (kind[rider]) {
                case PULLER: return storeNow > 20;
                case SITTER: return storeNow > 100 && late;
                case REFUSER: return false;
                case FAST: return storeNow > 100 && !late;
                case CLOSER: return storeNow > 20 || storeNow > 0 && late;
                default: return storeNow > 100;
            }
        }

        int stays(int rider) {
            int asPuller = 1 + number[rider] / 3;
            switch (kind[rider]) {
                case PULLER: return asPuller;
                case CLOSER: return 2 * asPuller;
                default: return 1;
            }
        }

        int ends(int rider) {
            int asRider = power[rider];
            switch (kind[rider]) {
                case PULLER:
                case CLOSER: return Math.max(0, asRider - number[rider]);
                case SITTER: return asRider + number[rider];
                case REFUSER: return asRider + number[rider] + 1;
                case FAST: return asRider + 3 * number[rider];
                default: return asRider;
            }
        }

        boolean someFilmed(int group, int tenth) {
            for (int r = 0; r < count; r++) {
                if ((group >> r & 1) == 1 && (filmed[r] >> tenth & 1) == 1) {
                    return true;
                }
            }
            return false;
        }

        int allFilmed() {
            int all = 0;
            for (int r = 0; r < count; r++) {
                all += Long.bitCount(filmed[r]);
            }
            return all;
        }

        int allStores() {
            int all = 0;
            for (int r = 0; r < count; r++) {
                all += store[r];
            }
            return all;
        }
    }

    /** A text as steps for a stack: those of spend, then of fill, then of pace. */
    private static final class Text {
        // A step from 0 on puts itself, as a number; the names stand just below 0, in the order of their words.
        static final int LAST_NAME = -6, NEGATE = -7, DENY = -8, TIMES = -9, PLUS = -10, MINUS = -11;
        static final int LESS = -12, SAME = -13, BOTH = -14, EITHER = -15;

        final int[] steps;
        final int fillFrom;
        final int paceFrom;

        Text(int[] itsSteps, int fill, int pace) {
            steps = itsSteps;
            fillFrom = fill;
            paceFrom = pace;
        }

        int from(int key) {
            if (key == SPEND) {
                return 0;
            }
            return key == FILL ? fillFrom : paceFrom;
        }

        int to(int key) {
            if (key == SPEND) {
                return fillFrom;
            }
            return key == FILL ? paceFrom : steps.length;
        }
    }

    /** The bytes that were fed, and the reading of them as a text. */
    private static final class Tape {
        private static final int MOST_OPEN = 5, MOST_DIGITS = 4;
        // Signs are tokens by their own bytes; words begin at WORD, in the order of wordOf().
        private static final int END = 0, BROKEN = 1, NUMBER = 2, WORD = 128;
        private static final int OR = WORD + 3, AND = WORD + 4, NOT = WORD + 5, FIRST_NAME = WORD + 6;
        private static final int WORDS = 12;

        private final byte[] bytes = new byte[MOST_BYTES];
        private final int[] steps = new int[MOST_BYTES];
        private final int[] begins = new int[PACE + 1];
        int size;
        private int stepCount;
        private int next;
        private int at;
        private int token;
        private int number;

        int room() {
            return MOST_BYTES - size;
        }

        void put(byte b) {
            if (size < MOST_BYTES) {
                bytes[size] = b;
                size++;
            }
        }

        void empty() {
            size = 0;
        }

        /** What the last reading without a fault came to. */
        Text lastText() {
            return new Text(Arrays.copyOf(steps, stepCount), begins[FILL], begins[PACE]);
        }

        /** The place of the fault; NONE. */
        int readText() {
            next = 0;
            stepCount = 0;
            advance();
            for (int key = SPEND; key <= PACE; key++) {
                if (token != WORD + key) {
                    return at;
                }
                begins[key] = stepCount;
                advance();
                if (!readEither(0) || token != ';') {
                    return at;
                }
                advance();
            }
            return token == END ? NONE : at;
        }

        // Each read..() stops at the token that can't stand there, so that `at` is the fault's place.

        private boolean readEither(int open) {
            boolean good = readBoth(open);
            for (int i = 0; i < MOST_BYTES && good && token == OR; i++) {
                advance();
                good = readBoth(open);
                step(Text.EITHER);
            }
            return good;
        }

        private boolean readBoth(int open) {
            boolean good = readDenied(open);
            for (int i = 0; i < MOST_BYTES && good && token == AND; i++) {
                advance();
                good = readDenied(open);
                step(Text.BOTH);
            }
            return good;
        }

        private boolean readDenied(int open) {
            if (token == NOT) {
                return open < MOST_OPEN && readBehind(Text.DENY, open + 1);
            }
            if (!readSum(open)) {
                return false;
            }
            if (token != '<' && token != '=') {
                return true;
            }
            int comparing = token == '<' ? Text.LESS : Text.SAME;
            advance();
            boolean good = readSum(open);
            step(comparing);
            return good;
        }

        /** What stands behind a not, or behind a - ahead of a one. */
        private boolean readBehind(int denying, int open) {
            advance();
            boolean good = denying == Text.DENY ? readDenied(open) : readOne(open);
            step(denying);
            return good;
        }

        private boolean readSum(int open) {
            boolean good = readTerm(open);
            for (int i = 0; i < MOST_BYTES && good && (token == '+' || token == '-'); i++) {
                int joining = token == '+' ? Text.PLUS : Text.MINUS;
                advance();
                good = readTerm(open);
                step(joining);
            }
            return good;
        }

        private boolean readTerm(int open) {
            boolean good = readOne(open);
            for (int i = 0; i < MOST_BYTES && good && token == '*'; i++) {
                advance();
                good = readOne(open);
                step(Text.TIMES);
            }
            return good;
        }

        private boolean readOne(int open) {
            if (token == '-') {
                return open < MOST_OPEN && readBehind(Text.NEGATE, open + 1);
            }
            if (token == '(') {
                return open < MOST_OPEN && readInside(open + 1);
            }
            if (token == NUMBER) {
                step(number);
            } else if (token >= FIRST_NAME) {
                step(FIRST_NAME - token - 1);
            } else {
                return false;
            }
            advance();
            return true;
        }

        private boolean readInside(int open) {
            advance();
            if (!readEither(open) || token != ')') {
                return false;
            }
            advance();
            return true;
        }

        private void step(int what) {
            if (stepCount < MOST_BYTES) {
                steps[stepCount] = what;
                stepCount++;
            }
        }

        private void advance() {
            for (int i = next; i < size && (bytes[i] == ' ' || bytes[i] == '\n'); i++) {
                next = i + 1;
            }
            at = next;
            if (at >= size) {
                token = END;
            } else if (isLetter(at)) {
                takeWord();
            } else if (isDigit(at)) {
                takeNumber();
            } else {
                token = isSign(bytes[at]) ? bytes[at] : BROKEN;
                next = at + 1;
            }
        }

        private void takeWord() {
            while (next < size && isLetter(next)) {
                next++;
            }
            token = BROKEN;
            for (int k = 0; k < WORDS; k++) {
                if (isSpelt(wordOf(k))) {
                    token = WORD + k;
                }
            }
        }

        private boolean isSpelt(String word) {
            if (word.length() != next - at) {
                return false;
            }
            for (int i = 0; i < word.length(); i++) {
                if (word.charAt(i) != bytes[at + i]) {
                    return false;
                }
            }
            return true;
        }

        private void takeNumber() {
            number = 0;
            while (next < size && isDigit(next)) {
                number = number * 10 + bytes[next] - '0';
                next++;
            }
            token = next - at > MOST_DIGITS ? BROKEN : NUMBER;
        }

        private boolean isLetter(int i) {
            return bytes[i] >= 'a' && bytes[i] <= 'z';
        }

        private boolean isDigit(int i) {
            return bytes[i] >= '0' && bytes[i] <= '9';
        }

        private static boolean isSign(int b) {
            switch (b) {
                case '(':
                case ')':
                case ';':
                case '+':
                case '-':
                case '*':
                case '<':
                case '=': return true;
                default: return false;
            }
        }

        private static String wordOf(int k) {
            switch (k) {
                case 0: return "spend";
                case 1: return "fill";
                case 2: return "pace";
                case 3: return "or";
                case 4: return "and";
                case 5: return "not";
                case 6: return "power";
                case 7: return "place";
                case 8: return "slope";
                case 9: return "wind";
                case 10: return "store";
                default: return "left";
            }
        }
    }

    /** The texts, which of them is the rule, and what it says. */
    private static final class Rules {
        private static final int NAMES = 6;
        // Six levels of E with five halves that wait in each, and the one at hand: 31 at most.
        private static final int DEEPEST = 40;

        private final Road road;
        private final Team team;
        private final Text[] texts = new Text[MOST_TEXTS];
        private final int[] names = new int[NAMES];
        private final int[] stack = new int[DEEPEST];
        int count;
        int rule;

        Rules(Road itsRoad, Team itsTeam) {
            road = itsRoad;
            team = itsTeam;
        }

        int add(Text text) {
            if (count >= MOST_TEXTS) {
                return FULL;
            }
            texts[count] = text;
            return count++;
        }

        int comesTo(int key, int rider, int store, int tenth, int place) {
            names[0] = team.power[rider];
            names[1] = road.sheltered(tenth, place);
            names[2] = road.slope[tenth];
            names[3] = road.wind[tenth];
            names[4] = store;
            names[5] = road.left(tenth);
            return within(key == PACE ? 1 : 0, valueOf(key), 99);
        }

        /** What a rider with its own store spends at a place, less what it gains there. */
        int loss(int rider, int tenth, int place) {
            int store = team.store[rider];
            return comesTo(SPEND, rider, store, tenth, place) - comesTo(FILL, rider, store, tenth, place);
        }

        private int valueOf(int key) {
            Text text = texts[rule];
            if (text == null) {
                return 0;
            }
            int top = 0;
            int to = text.to(key);
            for (int i = text.from(key); i < to; i++) {
                int step = text.steps[i];
                if (step >= Text.LAST_NAME) {
                    if (top >= DEEPEST) {
                        return 0;
                    }
                    stack[top] = step >= 0 ? step : names[-1 - step];
                    top++;
                } else if (step >= Text.DENY && top > 0) {
                    int of = stack[top - 1];
                    stack[top - 1] = step == Text.NEGATE ? -of : of == 0 ? 1 : 0;
                } else if (top > 1) {
                    top--;
                    stack[top - 1] = joined(step, stack[top - 1], stack[top]);
                }
            }
            return stack[0];
        }

        private static int joined(int step, int a, int b) {
            switch (step) {
                case Text.TIMES: return a * b;
                case Text.PLUS: return a + b;
                case Text.MINUS: return a - b;
                case Text.LESS: return a < b ? 1 : 0;
                case Text.SAME: return a == b ? 1 : 0;
                case Text.BOTH: return a != 0 && b != 0 ? 1 : 0;
                default: return a != 0 || b != 0 ? 1 : 0;
            }
        }
    }

    /** A ride of a group, tenth by tenth; the team's own stores stay as they are. */
    private static final class Ride {
        private final Road road;
        private final Team team;
        private final Rules rules;
        final int[] store = new int[MOST_RIDERS];
        private final int[] row = new int[MOST_RIDERS];
        private int size;
        /** For how many tenths the front one has been there. */
        private int since;
        int front;
        int pace;

        Ride(Road itsRoad, Team itsTeam, Rules itsRules) {
            road = itsRoad;
            team = itsTeam;
            rules = itsRules;
        }

        void begin(int group) {
            size = 0;
            since = 0;
            for (int r = 0; r < team.count; r++) {
                if ((group >> r & 1) == 1) {
                    row[size] = r;
                    size++;
                    store[r] = team.store[r];
                }
            }
        }

        void go(int tenth) {
            front = NONE;
            pace = 1;
            if (size == 0) {
                return;
            }
            int left = road.left(tenth);
            if (someWorks(left)) {
                takeTurns(left);
            }
            front = row[0];
            since++;
            pace = rules.comesTo(PACE, front, store[front], tenth, 0);
            tire(tenth);
            fallBack();
        }

        /** All of a ride: how far it goes. */
        int rideAll(int group, int tenths) {
            int far = 0;
            begin(group);
            for (int t = road.spanFrom(tenths); t <= road.spanTo(tenths); t++) {
                go(t);
                far += pace;
            }
            return far;
        }

        int left() {
            int bits = 0;
            for (int p = 0; p < size; p++) {
                bits |= 1 << row[p];
            }
            return bits;
        }

        private boolean someWorks(int left) {
            for (int p = 0; p < size; p++) {
                if (team.works(row[p], store[row[p]], left)) {
                    return true;
                }
            }
            return false;
        }

        private void takeTurns(int left) {
            for (int i = 0; i < size; i++) {
                int first = row[0];
                if (team.works(first, store[first], left) && since < team.stays(first)) {
                    return;
                }
                for (int p = 1; p < size; p++) {
                    row[p - 1] = row[p];
                }
                row[size - 1] = first;
                since = 0;
            }
        }

        private void tire(int tenth) {
            for (int p = 0; p < size; p++) {
                int r = row[p];
                int begun = store[r];
                int less = rules.comesTo(SPEND, r, begun, tenth, p);
                int more = rules.comesTo(FILL, r, begun, tenth, p);
                store[r] = within(0, begun - less + more, MOST_STORE);
            }
        }

        private void fallBack() {
            int stay = 0;
            for (int p = 0; p < size; p++) {
                if (store[row[p]] > 0) {
                    row[stay] = row[p];
                    stay++;
                }
            }
            if (store[front] == 0) {
                since = 0;
            }
            size = stay;
        }
    }

    /** The search for the order in which the last one ends best. */
    private static final class Train {
        private final Team team;
        int order;
        int has;

        Train(Team itsTeam) {
            team = itsTeam;
        }

        void search(int riders) {
            order = 0;
            has = NONE;
            tryAll(riders, 0, 0);
        }

        /** Lower digits are tried first, so that only a better order takes the place of one. */
        private void tryAll(int rest, int digits, int given) {
            if (rest == 0) {
                return;
            }
            for (int r = 0; r < team.count; r++) {
                if ((rest >> r & 1) == 1) {
                    int others = rest & ~(1 << r);
                    int end = team.ends(r) + given;
                    if (others == 0 && end > has) {
                        has = end;
                        order = digits * MOST_RIDERS + r;
                    }
                    tryAll(others, digits * MOST_RIDERS + r, end / 2);
                }
            }
        }
    }

    /** What was kept of the riders, and the rule. */
    private static final class Image {
        private final int[] power = new int[MOST_RIDERS];
        private final int[] store = new int[MOST_RIDERS];
        private final long[] filmed = new long[MOST_RIDERS];
        private int count;
        private int rule;
        boolean is;

        void keep(Team team, Rules rules) {
            is = true;
            count = team.count;
            rule = rules.rule;
            System.arraycopy(team.power, 0, power, 0, count);
            System.arraycopy(team.store, 0, store, 0, count);
            System.arraycopy(team.filmed, 0, filmed, 0, count);
        }

        void layBack(Team team, Rules rules) {
            rules.rule = rule;
            System.arraycopy(power, 0, team.power, 0, count);
            System.arraycopy(store, 0, team.store, 0, count);
            System.arraycopy(filmed, 0, team.filmed, 0, count);
        }
    }

    /** A row of numbers of a sort, or a missing one. */
    private static final class Sheet {
        static final int BYTES = 0, SHORTS = 1, INTS = 2;

        final int[] cells = new int[MOST_CELLS];
        int sort = NONE;
        int size;

        boolean isMissing() {
            return sort == NONE;
        }

        void become(int itsSort, int n) {
            sort = itsSort;
            size = n;
            Arrays.fill(cells, 0);
        }

        boolean reaches(int i, int n) {
            return i >= 0 && n >= 0 && i <= size - n;
        }

        void put(int i, int v) {
            if (sort == BYTES) {
                cells[i] = (byte) v;
            } else {
                cells[i] = sort == SHORTS ? (short) v : v;
            }
        }
    }
}
