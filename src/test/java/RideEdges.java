/** The document's sentences on rides, promises 11 to 16 with them. */
final class RideEdges extends Edges {
    private static final String FREE = "spend 0;fill 0;pace power;";
    private static final int RIDER = 0, PULLER = 1, SITTER = 2, REFUSER = 3, CLOSER = 5;
    private static final int FAR = 0, LEFT = 1, FRONT = 2;

    private RideEdges() { }

    static void all() {
        group();
        tenths();
        stays();
        goesToTheEnd();
        asItBegins();
        pace();
        stores();
        fallsBack();
        whatARideTells();
        caught();
        caughtRefuses();
        worth();
        leastLoss();
        ridePromise();
        spentPromise();
        riddenPromise();
    }

    /** The fronts of the tenths from 0 on, each told by a ride of its own. */
    private static void fronts(Sentence s, int group, int... fronts) {
        for (int t = 0; t < fronts.length; t++) {
            s.is(fronts[t], "ride", group, t, FRONT);
        }
    }

    private static void group() {
        Sentence.of("A RIDE of a GROUP (bits of RIDERS; some) from a TENTH to another one (not ahead of it): "
            + "at first they ride by numbers.", s -> {
                s.flat(40).no(BAD, "ride", 1, 0, FAR).riders(1).is(50, "ride", 1, 0, FAR).no(BAD, "ride", 2, 0, FAR);
                s.no(BAD, "ride", 3, 0, FAR).riders(11).bounds(0, 1, 4095, BAD, 50, 50, "ride", 0, 0, FAR);
                s.no(BAD, "ride", 8192, 0, FAR).no(BAD, "ride", LEAST + 1, 0, FAR).no(BAD, "ride", -1, 0, FAR);
                s.is(0, "ride", 4095, 0, FRONT).is(3, "ride", 2048 + 8 + 32, 0, FRONT).is(11, "ride", 2048, 0, FRONT);
                s.rule("spend place*5;fill 0;pace 1;");
                s.is(0, "spent", 2048 + 8 + 32, 0, 3).is(5, "spent", 2048 + 8 + 32, 0, 5);
                s.is(10, "spent", 2048 + 8 + 32, 0, 11).is(55, "spent", 4095, 0, 11);
                s.is(1, "ride", 1, 101, FAR).is(2, "ride", 1, 102, FAR).no(BAD, "ride", 1, 201, FAR);
            });
    }

    private static void tenths() {
        Sentence.of("(tenths: 100 times the one, and the other one)", s -> {
            s.riders(1).no(BAD, "ride", 1, 0, FAR).flat(1).is(50, "ride", 1, 0, FAR).no(BAD, "ride", 1, 1, FAR);
            s.no(BAD, "ride", 1, 100, FAR).no(BAD, "ride", 1, 101, FAR).go("set", 0, 1, 999).flat(39);
            s.is(2000, "ride", 1, 39, FAR).is(50, "ride", 1, 3939, FAR).is(100, "ride", 1, 3839, FAR);
            int[] bad = {40, 99, 100, 3938, 3940, 4039, 4040, 9999, 10000, 10039, 1000000, MOST, LEAST, -1, -39, -100,
                -101, -3939};
            for (int tenths : bad) {
                s.no(BAD, "ride", 1, tenths, FAR).no(NO, "spent", 1, tenths, 0).no(BAD, "ridden", 1, tenths);
            }
        });
    }

    // ---- who is at the front

    private static void stays() {
        Sentence.of("TENTH by TENTH: if some of it WORKS (as it begins), the front one, if it doesn't, "
            + "or has been there for as many TENTHS as it STAYS,", s -> {
                s.flat(40).rule(FREE);
                s.go("rider", PULLER, 3, 30, 500).go("rider", RIDER, 9, 40, 500).go("rider", CLOSER, 9, 60, 500);
                fronts(s, 3, 0, 0, 1, 0, 0, 1);
                fronts(s, 5, 0, 0, 2, 2, 2, 2, 2, 2, 2, 2, 0, 0, 2);
                fronts(s, 7, 0, 0, 1, 2, 2, 2, 2, 2, 2, 2, 2, 0, 0, 1, 2);
                s.is(0, "ride", 7, 101, FRONT).is(0, "ride", 7, 102, FRONT).is(1, "ride", 7, 103, FRONT);
                // Nobody works: the front one stays there, for as long as that may be.
                s.again().flat(5).rule(FREE).go("rider", REFUSER, 9, 50, 999).go("rider", RIDER, 9, 60, 100);
                fronts(s, 3, 0, 0, 0, 0, 0);
                fronts(s, 2, 1, 1, 1, 1, 1);
                // It has been there, too, while nobody worked.
                s.again().flat(4).rule(FREE).go("rider", SITTER, 2, 50, 999).go("rider", SITTER, 2, 60, 999);
                fronts(s, 3, 0, 0, 1, 0);
                s.again().flat(10).rule(FREE).go("rider", CLOSER, 3, 50, 20).go("rider", CLOSER, 3, 60, 20);
                fronts(s, 3, 0, 0, 0, 0, 0, 0, 0, 1, 1, 1);
                s.is(1, "ride", 3, 307, FRONT).is(0, "ride", 3, 407, FRONT).is(0, "ride", 3, 507, FRONT);
                s.is(0, "ride", 3, 608, FRONT).is(0, "ride", 3, 609, FRONT).is(1, "ride", 3, 509, FRONT);
                // Of as many riders as there can be each one leads in its turn, or none of them, or the last one alone.
                s.again().flat(14).rule(FREE).riders(12);
                fronts(s, 4095, 0, 1, 2, 3, 4, 5, 6, 7, 8, 9, 10, 11, 0, 1);
                s.again().flat(3).rule(FREE);
                for (int r = 0; r < 11; r++) {
                    s.go("rider", REFUSER, 0, 50, 500);
                }
                fronts(s, 2047, 0, 0, 0);
                s.go("rider", RIDER, 0, 50, 101);
                fronts(s, 4095, 11, 11, 11);
                s.go("set", 11, 1, 100);
                fronts(s, 4095, 0, 0, 0);
            });
    }

    private static void goesToTheEnd() {
        Sentence.of("goes to the end of the row, then the next one likewise, as many times as there are of them at most.",
            s -> {
                s.flat(3).rule("spend place*10;fill 0;pace 1;");
                s.go("rider", REFUSER, 0, 50, 500).go("rider", REFUSER, 0, 50, 500).go("rider", RIDER, 0, 50, 500);
                s.go("rider", REFUSER, 0, 50, 500);
                int[] spent = {20, 30, 0, 10};
                for (int r = 0; r < 4; r++) {
                    s.is(spent[r], "spent", 15, 0, r).is(3 * spent[r], "spent", 15, 2, r);
                }
                fronts(s, 15, 2, 2, 2);
                fronts(s, 4, 2, 2, 2);
                fronts(s, 11, 0, 0, 0);
                // Who comes round to the front again has been there for no tenth.
                s.again().flat(5).rule(FREE).go("rider", PULLER, 3, 50, 500).go("rider", SITTER, 2, 50, 500);
                fronts(s, 3, 0, 0, 0, 0, 1);
            });
    }

    private static void asItBegins() {
        Sentence.of("(as it begins)", s -> {
            s.flat(3).rule("spend 1;fill 0;pace 1;").go("rider", PULLER, 0, 50, 22).go("rider", RIDER, 0, 50, 900);
            fronts(s, 3, 0, 1, 1);
            s.again().flat(3).rule("spend 0;fill 1;pace 1;").go("rider", PULLER, 0, 50, 20);
            s.go("rider", RIDER, 0, 50, 900);
            fronts(s, 3, 1, 0, 1);
            s.again().flat(4).rule(FREE).go("rider", SITTER, 2, 50, 900).go("rider", RIDER, 0, 50, 900);
            fronts(s, 3, 1, 1, 0, 1);
            s.is(0, "ride", 3, 202, FRONT).is(1, "ride", 3, 101, FRONT);
        });
    }

    private static void pace() {
        Sentence.of("The group goes at the PACE of the front one.", s -> {
            s.flat(3).rule("spend 5;fill 0;pace power+place*20;").go("rider", 0, 0, 30, 500).go("rider", 0, 0, 60, 500);
            s.is(30, "ride", 3, 0, FAR).is(90, "ride", 3, 1, FAR).is(120, "ride", 3, 2, FAR).is(180, "ride", 2, 2, FAR);
            s.again().flat(3).rule("spend 5;fill 0;pace store;").go("rider", 0, 0, 30, 50);
            s.is(50, "ride", 1, 0, FAR).is(95, "ride", 1, 1, FAR).is(135, "ride", 1, 2, FAR);
        });
        Sentence.of("A group with nobody left goes at PACE 1.", s -> {
            s.flat(4).go("rider", 0, 0, 60, 24).is(120, "ride", 1, 1, FAR).is(121, "ride", 1, 2, FAR);
            s.is(122, "ride", 1, 3, FAR).is(0, "ride", 1, 3, LEFT).is(NONE, "ride", 1, 3, FRONT);
            s.is(0, "ride", 1, 1, LEFT).is(0, "ride", 1, 1, FRONT).is(NONE, "ride", 1, 2, FRONT);
        });
    }

    // ---- what a tenth costs

    /** By a text: what a store is behind one tenth. */
    private static void after(Sentence s, String text, int store, int due) {
        s.again().flat(1).go("rider", 0, 0, 50, store).rule(text);
        s.is(store - due, "spent", 1, 0, 0).is(due > 0 ? 1 : 0, "ridden", 1, 0).is(due, "told", 0, 0, 3);
    }

    private static void stores() {
        Sentence.of("Then each: STORE less spend, and fill (both as the TENTH begins; 0 .. 999, else the bound);", s -> {
            after(s, "spend 0;fill 0;pace 1;", 0, 0);
            after(s, "spend 0;fill 0;pace 1;", 1, 1);
            after(s, "spend 5;fill 0;pace 1;", 4, 0);
            after(s, "spend 5;fill 0;pace 1;", 5, 0);
            after(s, "spend 5;fill 0;pace 1;", 6, 1);
            after(s, "spend 5;fill 4;pace 1;", 1, 0);
            after(s, "spend 5;fill 4;pace 1;", 2, 1);
            after(s, "spend 99;fill 99;pace 1;", 0, 0);
            after(s, "spend 99;fill 99;pace 1;", 1, 1);
            after(s, "spend 99;fill 99;pace 1;", 999, 999);
            after(s, "spend 0;fill 1;pace 1;", 0, 1);
            after(s, "spend 0;fill 1;pace 1;", 998, 999);
            after(s, "spend 0;fill 1;pace 1;", 999, 999);
            after(s, "spend 1;fill 99;pace 1;", 900, 998);
            after(s, "spend 1;fill 99;pace 1;", 901, 999);
            after(s, "spend 1;fill 99;pace 1;", 902, 999);
            after(s, "spend store;fill store;pace 1;", 7, 7);
            after(s, "spend (store=7)*3;fill (store=7)*9;pace 1;", 7, 13);
        });
    }

    private static void fallsBack() {
        Sentence.of("those with 0 fall back: they are out of the row.", s -> {
            s.flat(2).rule("spend place*5;fill 0;pace power;");
            s.go("rider", RIDER, 0, 50, 900).go("rider", REFUSER, 0, 50, 5).go("rider", REFUSER, 0, 50, 100);
            s.is(5, "ride", 7, 0, LEFT).is(5, "ride", 7, 1, LEFT).is(5, "spent", 7, 1, 1).is(15, "spent", 7, 1, 2);
            s.go("set", 1, 1, 6).is(7, "ride", 7, 0, LEFT).is(5, "ride", 7, 1, LEFT).is(6, "spent", 7, 1, 1);
            s.is(20, "spent", 7, 1, 2).go("set", 1, 1, 0).is(5, "ride", 7, 0, LEFT).is(0, "spent", 7, 0, 1);
            s.is(10, "spent", 7, 0, 2);
            // Who is out gains nothing more.
            s.again().flat(2).rule("spend (left=2)*99;fill (left=1)*50;pace power;").go("rider", 0, 0, 50, 50);
            s.is(51, "ride", 1, 1, FAR).is(0, "ride", 1, 1, LEFT).is(50, "spent", 1, 1, 0);
            // Who is at the front behind one that fell back has been there for no tenth.
            s.again().flat(4).go("rider", REFUSER, 0, 40, 24);
            s.go("rider", SITTER, 2, 50, 900).go("rider", SITTER, 2, 60, 900);
            fronts(s, 7, 0, 0, 1, 2);
        });
    }

    private static void whatARideTells() {
        Sentence.of("FAR: all PACES together; LEFT: who is in it (bits); FRONT: who rode at the front in a TENTH; "
            + "SPENT: of a RIDER what STORE is less. Nothing changes; RIDDEN: STORES are so then.", s -> {
                s.flat(40).rule(FREE).go("rider", 0, 0, 99, 500).go("rider", 0, 0, 1, 500).riders(2).go("force", 0);
                int[] spent = {12, 7, 2, -3};
                for (int r = 0; r < 4; r++) {
                    s.is(spent[r], "spent", 15, 0, r);
                }
                s.is(99, "ride", 15, 0, FAR).is(15, "ride", 15, 0, LEFT).is(0, "ride", 15, 0, FRONT);
                s.is(1, "ride", 15, 1, FRONT);
                s.is(2000, "count", 6).is(15, "ridden", 15, 0).is(1982, "count", 6);
                for (int r = 0; r < 4; r++) {
                    s.is(500 - spent[r], "told", r, 0, 3);
                }
                s.go("force", 1).is(40 * 99, "ride", 1, 39, FAR).is(40, "ride", 2, 39, FAR).is(2, "ride", 2, 39, LEFT);
            });
    }

    // ---- a group that went off

    private static void caught() {
        Sentence.of("CAUGHT: a group is so much (GAP, 0 .. 9999) ahead of another one (no RIDER in both); both RIDE: GAP is "
            + "more by the PACE of the one, less by that of the other one; the first TENTH behind which it isn't above 0; "
            + "NONE; what GAP is behind the last one.", s -> {
                s.flat(4).go("rider", 0, 0, 40, 900).go("rider", 0, 0, 50, 900).go("rider", 0, 0, 60, 24);
                s.bounds(3, 0, 9999, NO, -40, 9959, "caught", 1, 2, 3, 0, 1);
                s.bounds(3, 0, 9999, NO, 0, NONE, "caught", 1, 2, 3, 0, 0);
                int[] gaps = {0, 10, 11, 20, 21, 30, 31, 40, 41};
                int[] due = {0, 0, 1, 1, 2, 2, 3, 3, NONE};
                for (int i = 0; i < gaps.length; i++) {
                    s.is(due[i], "caught", 1, 2, 3, gaps[i], 0).is(gaps[i] - 40, "caught", 1, 2, 3, gaps[i], 1);
                }
                s.is(3, "caught", 1, 2, 203, 20, 0).is(NONE, "caught", 1, 2, 203, 21, 0);
                s.is(1, "caught", 1, 2, 203, 21, 1);
                s.is(NONE, "caught", 2, 1, 3, 0, 0).is(40, "caught", 2, 1, 3, 0, 1);
                // Rider 2 has two tenths at 60, and then falls back: the gap grows again.
                s.is(0, "caught", 1, 4, 3, 20, 0).is(58, "caught", 1, 4, 3, 20, 1).is(1, "caught", 1, 4, 3, 21, 0);
                s.is(NONE, "caught", 1, 4, 3, 41, 0).is(3, "caught", 4, 1, 3, 38, 0).is(NONE, "caught", 4, 1, 3, 39, 0);
                s.go("set", 0, 0, 50).is(0, "caught", 1, 2, 3, 0, 0).is(NONE, "caught", 1, 2, 3, 1, 0);
                s.is(0, "caught", 1, 2, 3, 0, 1);
            });
    }

    private static void caughtRefuses() {
        Sentence.of("CAUGHT (tenths; gap): the TENTH (what 0; NONE), GAP behind the last one (1). NO: none such.", s -> {
            s.flat(4).riders(12).go("set", 0, 0, 99).go("set", 11, 0, 99);
            s.is(NONE, "caught", 2047, 2048, 0, 49, 0).is(49, "caught", 2047, 2048, 0, 49, 1);
            s.is(NONE, "caught", 1, 4094, 3, 0, 0).bounds(4, 0, 1, NO, NONE, 196, "caught", 1, 4094, 3, 0, 0);
            long[][] none = {{0, 2, 0, 0, 0}, {1, 0, 0, 0, 0}, {4096, 1, 0, 0, 0}, {1, 4096, 0, 0, 0}, {-2, 1, 0, 0, 0},
                {1, -2, 0, 0, 0}, {LEAST, 1, 0, 0, 0}, {1, LEAST, 0, 0, 0}, {1, 1, 0, 0, 0}, {1, 3, 0, 0, 0}, {3, 1, 0, 0, 0},
                {4095, 1, 0, 0, 1}, {1, 4095, 0, 0, 1}, {2048, 4094, 0, 0, 1}, {1, 2, 4, 0, 0}, {1, 2, 100, 0, 0},
                {1, 2, -1, 0, 0}, {1, 2, 400, 0, 0}, {1, 2, 0, -1, 0}, {1, 2, 0, 10000, 0}, {1, 2, 0, 0, -1}, {1, 2, 0, 0, 2}};
            for (long[] args : none) {
                s.no(NO, "caught", args);
            }
        });
    }

    // ---- places

    private static void worth() {
        Sentence.of("WORTH of a place p (0 .. 11) to a RIDER in a TENTH: spend less fill at the front less what that is "
            + "there.", s -> {
                s.flat(1).go("tenth", -9, 0, 20).go("tenth", 0, 0, 5).riders(1);
                s.bounds(2, 0, 11, NO, 0, 23, "worth", 0, 0, 0);
                int[] flat = {0, 5, 10, 15, 16, 17, 18};
                int[] down = {0, 4, 5, 6, 7, 8, 9};
                int[] side = {0, 5, 0, 0, 0, 0, 0};
                for (int place = 0; place < 7; place++) {
                    s.is(flat[place], "worth", 0, 0, place).is(down[place], "worth", 0, 1, place);
                    s.is(side[place], "worth", 0, 2, place);
                }
                s.rule("spend place*9;fill 0;pace 1;").is(-99, "worth", 0, 0, 11).is(-18, "worth", 0, 0, 2);
                s.rule("spend (place=0)*99;fill (place=11)*99;pace 1;").is(198, "worth", 0, 0, 11);
                s.rule("spend (place=11)*99;fill (place=0)*99;pace 1;").is(-198, "worth", 0, 0, 11);
            });
        Sentence.of("WORTH. NO: none such.", s -> {
            s.no(NO, "worth", 0, 0, 0).riders(1).no(NO, "worth", 0, 0, 0).go("tenth", 0, 9, 20).flat(38);
            s.go("tenth", 0, 0, 3);
            s.riders(10).go("rider", 0, 0, 1, 9);
            s.bounds(0, 0, 11, NO, 5, 5, "worth", 0, 0, 1).bounds(1, 0, 39, NO, 5, 0, "worth", 0, 0, 1);
            s.bounds(2, 0, 11, NO, 0, 32, "worth", 0, 0, 1);
        });
    }

    private static void leastLoss() {
        Sentence.of("LEAST LOSS: the RIDER of a group as whose front (the others behind it by numbers) all of it together "
            + "spend least, less what they gain, in a TENTH; of like ones the least.", s -> {
                s.flat(1).go("tenth", 0, 0, 5);
                s.go("rider", 0, 0, 40, 500).go("rider", 0, 0, 30, 500).go("rider", 0, 0, 30, 500);
                s.go("rider", 0, 0, 50, 500);
                s.is(0, "turns", 15, 0, 0).is(18, "turns", 15, 0, 1).is(1, "turns", 14, 0, 0).is(21, "turns", 14, 0, 1);
                s.is(31, "turns", 14, 1, 1).is(3, "turns", 8, 0, 0).is(12, "turns", 8, 0, 1);
                // By powers 40, 30, 30, 50 at the front, and 10 more for who rides just behind rider 0 or has it there.
                s.rule("spend (place=0)*power+(place=1)*(power=40)*10;fill place;pace 1;");
                s.is(0, "turns", 15, 0, 0).is(34, "turns", 15, 0, 1).is(1, "turns", 14, 0, 0).is(27, "turns", 14, 0, 1);
                s.is(0, "turns", 7, 0, 0).is(37, "turns", 7, 0, 1);
                s.go("set", 2, 0, 29).is(2, "turns", 14, 0, 0).is(26, "turns", 14, 0, 1);
                s.rule("spend 0;fill place*9;pace 1;").is(-54, "turns", 15, 0, 1).is(0, "turns", 15, 0, 0);
            });
        Sentence.of("LEAST LOSS: the RIDER (what 0), what it is (1). NO: none such.", s -> {
            s.no(NO, "turns", 1, 0, 0).riders(1).no(NO, "turns", 1, 0, 0).flat(40).riders(11).go("set", 11, 0, 1);
            s.bounds(0, 1, 4095, NO, 12, -42, "turns", 0, 0, 1).bounds(0, 1, 4095, NO, 0, 0, "turns", 0, 0, 0);
            s.bounds(1, 0, 39, NO, 12, 12, "turns", 1, 0, 1).bounds(2, 0, 1, NO, 11, 12, "turns", 2048, 0, 0);
            s.no(NO, "turns", 8192, 0, 0).no(NO, "turns", -1, 0, 0);
        });
    }

    // ---- promises 11 to 13

    private static void ridePromise() {
        Sentence.of("A RIDE: FAR (what 0), LEFT (1), FRONT of the last TENTH (2; NONE). BAD.", s -> {
            s.flat(2).go("rider", 0, 0, 60, 12).bounds(2, 0, 2, BAD, 60, 0, "ride", 1, 0, 0);
            s.is(0, "ride", 1, 0, LEFT).is(NONE, "ride", 1, 1, FRONT).is(61, "ride", 1, 1, FAR);
            s.no(BAD, "ride", 0, 0, FAR).no(BAD, "ride", 2, 0, FAR).no(BAD, "ride", 1, 2, FAR);
            s.no(BAD, "ride", 1, 100, FAR);
            s.go("set", 0, 1, 25).is(60, "ride", 1, 101, FAR).is(1, "ride", 1, 1, LEFT).is(0, "ride", 1, 1, FRONT);
        });
    }

    private static void spentPromise() {
        Sentence.of("SPENT by a RIDE of a RIDER of the group. NO: none such.", s -> {
            s.no(NO, "spent", 1, 0, 0).riders(1).no(NO, "spent", 1, 0, 0).flat(1).is(12, "spent", 1, 0, 0).riders(11);
            s.bounds(2, 0, 11, NO, 12, -11, "spent", 4095, 0, 0).is(12, "spent", 2048, 0, 11);
            int[] others = {0, 10, 12, 31, 32, 43, 64, -21, -1};
            for (int rider : others) {
                s.no(NO, "spent", 2048, 0, rider);
            }
            s.no(NO, "spent", 0, 0, 0).no(NO, "spent", 4096, 0, 0).no(NO, "spent", -1, 0, 0).no(NO, "spent", 1, 1, 0);
            s.no(NO, "spent", 1, 100, 0).no(NO, "spent", 1, -1, 0);
        });
    }

    private static void riddenPromise() {
        Sentence.of("A RIDE is RIDDEN: LEFT. BAD.", s -> {
            s.no(BAD, "ridden", 1, 0).riders(1).no(BAD, "ridden", 1, 0).flat(2).go("set", 0, 1, 37);
            s.no(BAD, "ridden", 0, 0).no(BAD, "ridden", 2, 0).no(BAD, "ridden", -1, 0).no(BAD, "ridden", 1, 2);
            s.no(BAD, "ridden", 1, 100).no(BAD, "ridden", 1, -1).is(37, "told", 0, 0, 3);
            s.is(1, "ridden", 1, 0).is(25, "told", 0, 0, 3).is(1, "ridden", 1, 1).is(1, "told", 0, 0, 3);
            s.is(0, "ridden", 1, 101).is(0, "told", 0, 0, 3).is(0, "ridden", 1, 0).is(0, "told", 0, 0, 3);
            s.again().flat(1).riders(12).is(4094, "ridden", 4094, 0).is(500, "told", 0, 0, 3).is(488, "told", 1, 0, 3);
        });
    }
}
