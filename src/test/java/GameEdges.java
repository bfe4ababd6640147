/** The document's sentences on games and ends, promises 17 to 26 with them. */
final class GameEdges extends Edges {
    private static final String FREE = "spend 0;fill 0;pace power;";
    private static final int RIDER = 0, PULLER = 1, FAST = 4;

    private GameEdges() { }

    static void all() {
        game();
        rests();
        good();
        goes();
        train();
        split();
        filmed();
        wrong();
        clock();
        image();
        gamePromise();
        goesPromise();
        trainPromise();
        splitPromise();
        wrongPromise();
        clockPromise();
        imagePromises();
        countPromise();
    }

    // ---- games

    private static void game() {
        Sentence.of("A GAME of RIDERS (2 or 3 of them, bits) who help (1) or sit (0): a SHEET tells for each choice (as bits, "
            + "the least RIDER's lowest) and each of them what it gets (8 by 3 or 4 by 2 numbers).", s -> {
                s.riders(12).go("sheet", 0, 0, 8).go("sheet", 1, 0, 24);
                s.no(BAD, "game", 1, 0, 0).is(15, "game", 3, 0, 0).is(255, "game", 7, 1, 0).no(BAD, "game", 15, 1, 0);
                s.no(BAD, "game", 1, 2, 0).no(NOTHING, "game", 3, 2, 0).no(NOTHING, "game", 7, 2, 0);
                s.no(BAD, "game", 15, 2, 0);
                s.no(BAD, "game", 2048, 0, 0).is(15, "game", 2049, 0, 0).is(255, "game", 3073, 1, 0);
                s.no(BAD, "game", 3, 1, 0).no(BAD, "game", 7, 0, 0).no(BAD, "game", 4095, 1, 0);
                int[] sizes = {0, 1, 7, 9, 16, 23, 25, 40};
                for (int size : sizes) {
                    s.go("sheet", 2, 0, size).no(BAD, "game", 3, 2, 0).no(BAD, "game", 7, 2, 1);
                }
                // The least rider gets 7 more by helping, the other one loses 1 by it.
                s.cells(0, 0, 0, 0, 7, 0, 0, -1, 7, -1).is(2, "game", 2064, 0, 0).is(1, "game", 2064, 0, 1);
                // Of three only the last one gets something, where it alone helps.
                int[] three = new int[24];
                three[3 * 4 + 2] = 9;
                s.cells(1, 1, three).is(4, "game", 2065, 1, 1).is(254, "game", 2065, 1, 0);
            });
    }

    private static void rests() {
        Sentence.of("RESTS: choices (bits of them) in which no one gets more by choosing otherwise alone.", s -> {
            s.riders(3).cells(0, 2, 1, 1, 1, 1, 1, 1, 1, 1).is(15, "game", 3, 0, 0);
            s.cells(0, 2, 1, -1, -1, 1, -1, 1, 1, -1).is(0, "game", 3, 0, 0);
            s.cells(0, 0, 0, 0, 2, 5, 5, 2, 3, 3).is(6, "game", 3, 0, 0);
            // Both get more by choosing otherwise together, but neither one alone.
            s.cells(0, 0, 0, 0, 0, 0, 0, 0, 1, 1).is(9, "game", 3, 0, 0);
            s.cells(0, 2, MOST, LEAST, LEAST, 0, LEAST, MOST, LEAST, LEAST).is(4, "game", 3, 0, 0);
            int[] three = new int[24];
            for (int choice = 0; choice < 8; choice++) {
                for (int i = 0; i < 3; i++) {
                    three[3 * choice + i] = 2 * Integer.bitCount(choice & ~(1 << i)) - (choice >> i & 1);
                }
            }
            s.cells(1, 0, three).is(1, "game", 7, 1, 0).is(7, "game", 7, 1, 1);
        });
    }

    private static void good() {
        Sentence.of("GOOD: the choice by which all together get most; of like ones the least.", s -> {
            s.riders(3).cells(0, 0, 0, 0, 2, 5, 5, 2, 3, 3).is(1, "game", 3, 0, 1);
            s.cells(0, 0, 1, 1, 1, 1, 1, 1, 1, 1).is(0, "game", 3, 0, 1);
            s.cells(0, 0, 1, 1, 1, 1, 1, 1, 1, 2).is(3, "game", 3, 0, 1);
            s.cells(0, 0, -9, -9, -1, -3, -9, -9, -1, -3).is(1, "game", 3, 0, 1);
            s.cells(0, 2, LEAST, LEAST, 0, 0, MOST, MOST, LEAST, MOST).is(2, "game", 3, 0, 1);
            s.cells(0, 2, LEAST, LEAST, LEAST, LEAST, LEAST, LEAST, LEAST, LEAST + 1).is(3, "game", 3, 0, 1);
            int[] three = new int[24];
            for (int choice = 0; choice < 8; choice++) {
                three[3 * choice + choice % 3] = choice;
            }
            s.cells(1, 0, three).is(7, "game", 7, 1, 1);
        });
    }

    // ---- who goes alone, who leads whom

    private static void goes() {
        Sentence.of("GOES: the first TENTH from which on a RIDER alone RIDES to the end of THE ROAD so that its STORE is above "
            + "0 then, and it is not CAUGHT by a told group (without it; GAP 0 ahead of that); NONE.", s -> {
                s.flat(4).go("rider", 0, 0, 50, 900).go("rider", 0, 0, 49, 900).go("rider", 0, 0, 1, 900);
                int[] stores = {0, 12, 13, 24, 25, 36, 37, 48, 49, 999};
                int[] due = {NONE, NONE, 3, 3, 2, 2, 1, 1, 0, 0};
                for (int i = 0; i < stores.length; i++) {
                    s.go("set", 0, 1, stores[i]).is(due[i], "goes", 0, 2);
                }
                // One as fast is at its wheel at once; of two the one that is faster by 1 gets away.
                s.is(NONE, "goes", 1, 1).go("set", 1, 0, 50).is(NONE, "goes", 0, 2).is(NONE, "goes", 1, 1);
                s.go("set", 1, 0, 51).is(NONE, "goes", 0, 2).is(0, "goes", 1, 1).is(0, "goes", 1, 3);
                s.is(0, "goes", 1, 7);
                s.is(0, "goes", 1, 6).is(0, "goes", 1, 2).is(NONE, "goes", 2, 7).is(0, "goes", 0, 1);
                s.is(0, "goes", 0, 5);
                // 9 faster in the first tenth, it is caught in the last one by who is 3 faster there.
                s.again().flat(3).go("rider", 0, 0, 40, 900).go("rider", 0, 0, 43, 900);
                s.rule("spend 0;fill 0;pace power+(left=3)*(power=40)*9;").is(NONE, "goes", 0, 2).go("set", 1, 0, 42);
                s.is(0, "goes", 0, 2).go("set", 1, 0, 45);
                s.rule("spend 0;fill 0;pace power+(left=3)*(power=40)*9+(left=1)*(power=40)*6;").is(2, "goes", 0, 2);
                s.go("set", 1, 0, 46).is(NONE, "goes", 0, 2);
            });
    }

    private static void train() {
        Sentence.of("TRAIN: of RIDERS (bits, 2 to 4) the order (as digits in base 12, the first one's the highest) in which "
            + "the last one ENDS best: from the front on each gives the next one half (cut) of its ENDS (with what it was "
            + "given); of like ones the first as digits; what the last one has.", s -> {
                s.riders(12).no(BAD, "train", 1, 0).is(1, "train", 3, 0).is(75, "train", 3, 1).is(14, "train", 7, 0);
                s.is(87, "train", 7, 1).is(144 + 24 + 3, "train", 15, 0).is(93, "train", 15, 1).no(BAD, "train", 31, 0);
                s.is(10 * 12 + 11, "train", 3072, 0).is(8 * 1728 + 9 * 144 + 10 * 12 + 11, "train", 3840, 0);
                s.is(5 * 12 + 11, "train", 2048 + 32, 0).go("set", 5, 0, 51).is(11 * 12 + 5, "train", 2048 + 32, 0);
                s.is(25 + 51, "train", 2048 + 32, 1).go("set", 11, 0, 52).is(5 * 12 + 11, "train", 2048 + 32, 0);
                s.is(25 + 52, "train", 2048 + 32, 1).go("set", 0, 0, 99).is(12, "train", 3, 0);
                s.is(25 + 99, "train", 3, 1);
                s.again().go("rider", RIDER, 0, 40, 0).go("rider", FAST, 7, 29, 0).go("rider", PULLER, 5, 50, 0);
                s.riders(1);
                s.go("set", 3, 0, 10);
                // ENDS are 40, 50, 45, 10: of three 40, 65, 82; of four 10, 45, 67, 83.
                s.is(24 + 1, "train", 7, 0).is(82, "train", 7, 1).is(3 * 1728 + 24 + 1, "train", 15, 0);
                s.is(83, "train", 15, 1);
                s.again().go("rider", 0, 0, 1, 0).go("rider", 0, 0, 1, 0).go("rider", 0, 0, 9, 0);
                s.is(14, "train", 7, 0).is(9, "train", 7, 1).is(1, "train", 3, 0).is(1, "train", 3, 1);
                s.again();
                for (int r = 0; r < 4; r++) {
                    s.go("rider", r < 2 ? PULLER : FAST, 9, r < 2 ? 1 : 99, 0);
                }
                s.is(1, "train", 3, 0).is(0, "train", 3, 1).is(2 * 12 + 3, "train", 12, 0).is(63 + 126, "train", 12, 1);
                s.is(24 + 3, "train", 13, 0).is(63 + 126, "train", 13, 1).is(144 + 24 + 3, "train", 15, 0);
            });
    }

    // ---- side wind, what was filmed

    private static void split() {
        Sentence.of("SPLIT: with SIDE 1 in a TENTH as many of a group as WIDE, by numbers, stay; how many don't.", s -> {
            s.riders(12).go("tenth", 0, 9, 3).go("tenth", 0, 0, 2 * 3 + 1).go("tenth", 0, 9, 2 * 3);
            s.go("tenth", 0, 0, 41);
            int[] three = {1, 3, 7, 15, 0x900, 0x906, 4095};
            int[] due = {0, 0, 0, 1, 0, 1, 9};
            for (int i = 0; i < three.length; i++) {
                s.is(due[i], "split", three[i], 1).is(0, "split", three[i], 2).is(0, "split", three[i], 3);
                s.is(Integer.bitCount(three[i]) - 1, "split", three[i], 0);
            }
        });
    }

    private static void filmed() {
        Sentence.of("FILMED are RIDERS at the front in TENTHS (by call).", s -> {
            s.flat(40).riders(12).is(0, "count", 5).is(0, "film", 0, 0, 1).is(0, "film", 0, 39, 1);
            s.is(0, "film", 11, 0, 1);
            s.is(0, "film", 11, 39, 1).is(4, "count", 5).is(1, "film", 11, 39, 1).is(4, "count", 5);
            s.is(0, "film", 11, 38, 0).is(4, "count", 5).is(1, "film", 0, 39, 0).is(0, "film", 0, 39, 0);
            s.is(3, "count", 5);
            s.is(1, "film", 0, 0, 1).is(1, "film", 11, 0, 1).is(1, "film", 11, 39, 1).is(0, "film", 1, 0, 0);
        });
        Sentence.of("A RIDER was FILMED at the front in a TENTH (1), or not (0): what it was. BAD.", s -> {
            s.no(BAD, "film", 0, 0, 0).riders(1).no(BAD, "film", 0, 0, 0).flat(40).riders(11);
            s.bounds(0, 0, 11, BAD, 0, 0, "film", 0, 1, 1).bounds(1, 0, 39, BAD, 0, 0, "film", 0, 0, 1);
            s.is(4, "count", 5).bounds(2, 0, 1, BAD, 0, 0, "film", 5, 5, 0).is(1, "film", 5, 5, 0);
            s.is(0, "film", 5, 5, 0);
            s.no(BAD, "film", 0, 40, 1).no(BAD, "film", 0, 63, 0).no(BAD, "film", 0, 64, 0).is(4, "count", 5);
        });
    }

    private static void wrong() {
        Sentence.of("WRONG: the first TENTH of a RIDE in which one of the group was FILMED who was not FRONT; NONE.", s -> {
            s.flat(4).rule(FREE).riders(2).go("rider", 0, 0, 50, 500).is(NONE, "wrong", 7, 3);
            // Of riders 0 and 1 the fronts are 0, 1, 0, 1.
            s.go("film", 0, 0, 1).go("film", 1, 1, 1).go("film", 0, 2, 1).go("film", 1, 3, 1).is(NONE, "wrong", 3, 3);
            s.go("film", 0, 3, 1).is(3, "wrong", 3, 3).is(NONE, "wrong", 3, 2).is(NONE, "wrong", 1, 3);
            s.is(NONE, "wrong", 2, 3);
            s.is(NONE, "wrong", 3, 202).is(1, "wrong", 3, 103).is(3, "wrong", 3, 303).go("film", 1, 0, 1);
            s.is(0, "wrong", 3, 3).is(0, "wrong", 3, 0).is(NONE, "wrong", 4, 3).go("film", 2, 2, 1);
            s.is(NONE, "wrong", 3, 202);
            s.is(2, "wrong", 7, 202).is(2, "wrong", 6, 202).is(NONE, "wrong", 4, 202);
            // Who fell back is still of the group, and nobody is the front then.
            s.again().flat(3).go("rider", 0, 0, 50, 12).riders(1).go("film", 0, 1, 1).is(NONE, "wrong", 1, 0);
            s.is(1, "wrong", 1, 1).is(1, "wrong", 3, 2).is(NONE, "wrong", 1, 101).is(NONE, "wrong", 2, 2);
        });
    }

    private static void clock() {
        Sentence.of("CLOCK: k (1 .. 99) for m (1 .. 20) TENTHS left: the TENTHS (bits), as of CAUGHT, as which begin GAP is no "
            + "more than k times as many as are left, by m (cut).", s -> {
                s.flat(5).go("rider", 0, 0, 40, 900).go("rider", 0, 0, 50, 900);
                // 10 times 5, 4, 3, 2, 1 against gaps that are 10 less, or more, in each tenth.
                s.is(31, "clock", 1, 2, 4, 50, 1001).is(0, "clock", 1, 2, 4, 51, 1001);
                s.is(31, "clock", 1, 2, 4, 0, 1001);
                s.is(1, "clock", 2, 1, 4, 50, 1001).is(1, "clock", 2, 1, 4, 31, 1001).is(3, "clock", 2, 1, 4, 30, 1001);
                s.is(4 + 8, "clock", 1, 2, 203, 30, 1001).is(0, "clock", 1, 2, 203, 31, 1001);
                s.is(16, "clock", 1, 2, 404, 10, 1001);
                s.go("set", 0, 0, 50);
                // 7 times 5, 4, 3, 2, 1 by 2, cut: 17, 14, 10, 7, 3.
                int[] gaps = {3, 4, 7, 8, 10, 11, 14, 15, 17, 18, 9999};
                int[] due = {31, 15, 15, 7, 7, 3, 3, 1, 1, 0, 0};
                for (int i = 0; i < gaps.length; i++) {
                    s.is(due[i], "clock", 1, 2, 4, gaps[i], 702);
                }
                s.is(1, "clock", 1, 2, 4, 495, 9901).is(0, "clock", 1, 2, 4, 496, 9901);
                s.is(3, "clock", 1, 2, 4, 396, 9901);
                s.is(31, "clock", 1, 2, 4, 0, 120).is(0, "clock", 1, 2, 4, 1, 120).is(1, "clock", 1, 2, 4, 1, 105);
                s.again().flat(40).go("rider", 0, 0, 40, 900).go("rider", 0, 0, 40, 900);
                s.is((1L << 40) - 1, "clock", 1, 2, 39, 0, 101).is((1L << 21) - 1, "clock", 1, 2, 39, 1, 120);
                s.is(1, "clock", 1, 2, 39, 2, 120).is(0, "clock", 1, 2, 39, 3, 120);
                s.is(1L << 39, "clock", 1, 2, 3939, 1, 101);
                s.is(1, "clock", 1, 2, 39, 3960, 9901).is(0, "clock", 1, 2, 39, 3961, 9901);
            });
    }

    // ---- what is laid back

    private static void image() {
        Sentence.of("AN IMAGE keeps STORES, POWERS, THE RULE, what was FILMED (RIDERS that came since stay as they are).", s -> {
            s.no(STATE, "back").flat(3).riders(2).text(1, FREE).go("force", 1).go("film", 0, 2, 1).no(STATE, "back");
            s.is(2, "image").text(2, FREE).go("force", 2).go("set", 0, 0, 1).go("set", 0, 1, 0).go("set", 1, 0, 99);
            s.go("set", 1, 1, 999).go("film", 0, 2, 0).go("film", 1, 0, 1).flat(1).go("film", 1, 3, 1).tape(" ");
            s.go("sheet", 0, 0, 3).go("rider", 1, 13, 7, 8).go("film", 2, 1, 1).go("set", 2, 0, 9).go("set", 2, 1, 10);
            s.is(3, "back").is(1, "count", 4).is(500, "told", 0, 0, 3).is(50, "told", 0, 0, 2).is(500, "told", 1, 0, 3);
            s.is(50, "told", 1, 0, 2).is(9, "told", 2, 0, 2).is(10, "told", 2, 0, 3).is(2, "count", 5);
            s.is(1, "film", 0, 2, 1);
            s.is(0, "film", 1, 0, 0).is(0, "film", 1, 3, 0).is(1, "film", 2, 1, 1);
            // What it does not keep is as it is.
            s.is(4, "count", 0).is(3, "count", 1).is(3, "count", 2).is(1, "count", 3).is(1, "cell", 0, 2, 1);
        });
    }

    // ---- promises 17 to 26

    private static void gamePromise() {
        Sentence.of("RESTS (what 0, bits), GOOD (1). BAD: RIDERS, SHEET, what; -11; BAD: its size.", s -> {
            s.go("sheet", 0, 0, 8).go("sheet", 3, 0, 8).no(BAD, "game", 3, 0, 0).riders(1).no(BAD, "game", 3, 0, 0);
            s.riders(1);
            s.cells(0, 0, 0, 0, 2, 5, 5, 2, 3, 3).bounds(2, 0, 1, BAD, 6, 1, "game", 3, 0, 0);
            s.bounds(1, 0, 3, BAD, 6, 15, "game", 3, 0, 0).no(NOTHING, "game", 3, 1, 0).no(NOTHING, "game", 3, 2, 1);
            long[][] bad = {{0, 0, 0}, {1, 0, 0}, {2, 0, 0}, {4, 0, 0}, {5, 0, 0}, {7, 0, 0}, {-1, 0, 0}, {LEAST + 1, 0, 0},
                {1, 1, 0}, {3, 1, 2}, {3, 1, -1}, {3, 4, 0}, {3, -1, 0}};
            for (long[] args : bad) {
                s.no(BAD, "game", args);
            }
            s.go("sheet", 1, 0, 0).no(BAD, "game", 3, 1, 0).go("sheet", 1, 0, 7).no(BAD, "game", 3, 1, 0);
            s.go("sheet", 1, 0, 9).no(BAD, "game", 3, 1, 0).go("sheet", 0, -1, 8).no(NOTHING, "game", 3, 0, 0);
        });
    }

    private static void goesPromise() {
        Sentence.of("GOES. BAD (the RIDER may be in the group or not); NONE.", s -> {
            s.no(BAD, "goes", 0, 1).riders(2).is(NONE, "goes", 0, 2).flat(2).go("set", 0, 0, 51).no(BAD, "goes", 0, 4);
            s.riders(9).go("rider", 0, 0, 51, 500).bounds(0, 0, 11, BAD, 0, 0, "goes", 0, 4).is(NONE, "goes", 1, 4);
            s.is(0, "goes", 0, 2046).is(0, "goes", 0, 2047).bounds(1, 1, 4095, BAD, 0, 0, "goes", 0, 0);
            s.no(BAD, "goes", 0, 8192).no(BAD, "goes", 0, -2);
        });
    }

    private static void trainPromise() {
        Sentence.of("TRAIN: the order (what 0), what the last one has (1). BAD.", s -> {
            s.no(BAD, "train", 3, 0).riders(1).no(BAD, "train", 3, 0).riders(1);
            s.bounds(1, 0, 1, BAD, 1, 75, "train", 3, 0);
            long[][] bad = {{0, 0}, {1, 0}, {2, 1}, {4, 0}, {5, 0}, {7, 0}, {-1, 0}, {LEAST, 0}, {LEAST + 1, 0}, {MOST, 0}};
            for (long[] args : bad) {
                s.no(BAD, "train", args);
            }
            s.riders(10).no(BAD, "train", 31, 0).no(BAD, "train", 4095, 1).is(93, "train", 3840, 1);
            s.no(BAD, "train", 4097, 0);
        });
    }

    private static void splitPromise() {
        Sentence.of("SPLIT. BAD.", s -> {
            s.no(BAD, "split", 1, 0).riders(1).no(BAD, "split", 1, 0).go("tenth", 0, 0, 3).is(0, "split", 1, 0);
            s.no(BAD, "split", 2, 0).riders(11).flat(38).go("tenth", 0, 0, 5);
            s.bounds(0, 1, 4095, BAD, 0, 11, "split", 0, 0).bounds(1, 0, 39, BAD, 11, 10, "split", 4095, 0);
            s.no(BAD, "split", 8192, 0).no(BAD, "split", -1, 0);
        });
    }

    private static void wrongPromise() {
        Sentence.of("WRONG. BAD; NONE.", s -> {
            s.no(BAD, "wrong", 1, 0).riders(2).no(BAD, "wrong", 1, 0).flat(2).go("film", 1, 0, 1).go("film", 0, 1, 1);
            s.bounds(0, 1, 3, BAD, NONE, 0, "wrong", 0, 0).is(NONE, "wrong", 2, 1).is(NONE, "wrong", 3, 101);
            long[][] bad = {{4, 0}, {8, 0}, {LEAST + 1, 0}, {1, 2}, {1, 102}, {1, 100}, {1, 200}, {1, -1}, {1, MOST}};
            for (long[] args : bad) {
                s.no(BAD, "wrong", args);
            }
        });
    }

    private static void clockPromise() {
        Sentence.of("CLOCK (bits; rule: 100 times k, and m). NO: none such.", s -> {
            s.no(NO, "clock", 1, 2, 0, 0, 101).flat(1).riders(1).no(NO, "clock", 1, 2, 0, 0, 101).riders(2);
            s.is(1, "clock", 1, 2, 0, 0, 101).is(1, "clock", 1, 2, 0, 0, 120).is(1, "clock", 1, 2, 0, 0, 9901);
            s.is(1, "clock", 1, 2, 0, 0, 9920).is(1, "clock", 1, 2, 0, 4, 9920).is(0, "clock", 1, 2, 0, 5, 9920);
            int[] rules = {0, 1, 20, 100, 121, 199, 200, 9900, 9921, 10000, 10001, 10101, -101, -1, MOST, LEAST};
            for (int rule : rules) {
                s.no(NO, "clock", 1, 2, 0, 0, rule);
            }
            s.bounds(3, 0, 9999, NO, 1, 0, "clock", 1, 2, 0, 0, 101);
            long[][] none = {{0, 2, 0, 0, 101}, {1, 0, 0, 0, 101}, {1, 1, 0, 0, 101}, {1, 3, 0, 0, 101}, {3, 2, 0, 0, 101},
                {8, 1, 0, 0, 101}, {1, 8, 0, 0, 101}, {-2, 1, 0, 0, 101}, {1, -2, 0, 0, 101}, {1, 2, 1, 0, 101},
                {1, 2, 100, 0, 101}, {1, 2, -1, 0, 101}};
            for (long[] args : none) {
                s.no(NO, "clock", args);
            }
        });
    }

    private static void imagePromises() {
        Sentence.of("AN IMAGE is kept: how many RIDERS.", s -> {
            s.is(0, "image").is(0, "back").riders(1).is(1, "image").riders(11).is(12, "image").go("set", 11, 1, 7);
            s.go("set", 0, 1, 8).is(12, "back").is(500, "told", 11, 0, 3).is(500, "told", 0, 0, 3);
            // A newer image takes the place of the one that was.
            s.go("set", 0, 1, 9).is(12, "image").go("set", 0, 1, 10).is(12, "back").is(9, "told", 0, 0, 3);
        });
        Sentence.of("All that it keeps is as in THE IMAGE: how many RIDERS. STATE: there is none.", s -> {
            s.no(STATE, "back").riders(1).no(STATE, "back").is(1, "image").go("set", 0, 1, 7).is(1, "back");
            s.is(500, "told", 0, 0, 3).go("set", 0, 1, 8).is(1, "back").is(500, "told", 0, 0, 3).riders(1);
            s.is(2, "back");
            s.flat(1).is(3, "ridden", 3, 0).is(488, "told", 0, 0, 3).is(493, "told", 1, 0, 3).is(2, "back");
            s.is(500, "told", 0, 0, 3).is(493, "told", 1, 0, 3);
        });
    }

    private static void countPromise() {
        Sentence.of("How many: 0 TENTHS, 1 RIDERS, 2 TEXTS, 3 bytes of THE TAPE, 4 THE RULE, 5 FILMED ones, 6 all STORES. BAD.",
            s -> {
                s.is(0, "count", 0).is(0, "count", 1).is(1, "count", 2).is(0, "count", 3).is(0, "count", 4);
                s.is(0, "count", 5).is(0, "count", 6).flat(40);
                for (int r = 0; r < 12; r++) {
                    s.go("rider", 0, 0, 50, 999).go("film", r, 39, 1).is(999 * (r + 1), "count", 6);
                    s.is(r + 1, "count", 5);
                }
                s.go("film", 0, 0, 1).is(13, "count", 5);
                for (int i = 1; i < 6; i++) {
                    s.text(i, FREE).go("force", i).is(i, "count", 4);
                }
                s.tape(" ".repeat(160)).is(160, "count", 3).is(6, "count", 2).is(12, "count", 1);
                s.bounds(0, 0, 6, BAD, 40, 999 * 12, "count", 0);
            });
    }
}
