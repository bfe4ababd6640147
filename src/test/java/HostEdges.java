/** The document's sentences on sheets and on what a host does with them, promises 27 to 31. */
final class HostEdges extends Edges {
    private HostEdges() { }

    static void all() {
        sheets();
        sheetPromise();
        cellPromise();
        cellsOfSorts();
        copyPromise();
        copiesOverItself();
        tenthsPromise();
        tenthsAhead();
        takenPromise();
    }

    /** Reads a cell as the slope of a tenth: from -9 to 9; other ones do not come. */
    private static void reads(Sentence s, int due, int sort, int v) {
        s.again().riders(1).go("sheet", 0, sort, 3).is(1, "cell", 0, 0, v).is(1, "cell", 0, 2, 2);
        if (due >= -9 && due <= 9) {
            s.is(1, "tenths", 0, sort, 0, 1).is(50 - due, "says", 0, 0, 0, 2);
        } else {
            s.is(0, "tenths", 0, sort, 0, 1).is(0, "count", 0);
        }
    }

    private static void sheets() {
        Sentence.of("SHEETS 0 .. 3 are rows of numbers, or missing (as all are at first): of sort 0 bytes, 1 shorts, 2 ints.",
            s -> {
                s.bounds(0, 0, 3, BAD, 1, 1, "sheet", 0, 0, 1).is(1, "cell", 0, 0, 5).is(1, "cell", 3, 0, 5);
                s.no(NOTHING, "cell", 1, 0, 5).no(NOTHING, "cell", 2, 0, 5).no(BAD, "cell", 4, 0, 5);
                s.no(BAD, "cell", -1, 0, 5);
                for (int sort = 0; sort < 3; sort++) {
                    s.is(1, "sheet", 2, sort, 3);
                    for (int other = 0; other < 3; other++) {
                        if (sort == other) {
                            s.is(0, "tenths", 2, other, 0, 0);
                        } else {
                            s.no(UNLIKE, "tenths", 2, other, 0, 0);
                        }
                    }
                }
            });
    }

    private static void sheetPromise() {
        Sentence.of("A SHEET becomes a row of n of a sort, all 0, or missing (sort -1: n does not matter): 1. "
            + "BAD: no such SHEET, sort; n above 40; -14.", s -> {
                s.bounds(1, -1, 2, BAD, 1, 1, "sheet", 0, 0, 5);
                int[] sizes = {0, 1, 39, 40};
                for (int n : sizes) {
                    s.is(1, "sheet", 0, 1, n).no(OUTSIDE, "cell", 0, n, 1).no(OUTSIDE, "cell", 0, -1, 1);
                    if (n > 0) {
                        s.is(1, "cell", 0, n - 1, 1);
                    }
                }
                s.no(BAD, "sheet", 0, 0, 41).no(BAD, "sheet", 0, 0, MOST).no(BELOW, "sheet", 0, 0, -1);
                s.no(BELOW, "sheet", 0, 0, LEAST).is(1, "cell", 0, 39, 1);
                s.no(BAD, "sheet", 4, 0, -1).no(BAD, "sheet", -1, -1, 0).no(BAD, "sheet", 0, 3, -1);
                s.no(BAD, "sheet", 0, -2, 41);
                int[] any = {-1, 0, 41, MOST, LEAST};
                for (int n : any) {
                    s.is(1, "sheet", 0, 0, 3).is(1, "sheet", 0, -1, n).no(NOTHING, "cell", 0, 0, 1);
                    s.is(1, "sheet", 1, -1, n);
                }
            });
        Sentence.of("all 0,", s -> {
            // One more for the first of two in choice 0 alone: by all 0 each choice would rest.
            for (int sort = 0; sort < 3; sort++) {
                s.again().riders(2).cells(0, sort, 1, 0, 0, 0, 0, 0, 0, 0).is(1 + 4 + 8, "game", 3, 0, 0);
                s.is(1, "sheet", 0, sort, 8).is(15, "game", 3, 0, 0);
                s.cells(0, sort, 1, 0, 0, 0, 0, 0, 0, 0).is(1, "sheet", 0, 2 - sort, 8).is(15, "game", 3, 0, 0);
                s.cells(0, sort, 1, 0, 0, 0, 0, 0, 0, 0).is(1, "sheet", 0, -1, 8).is(1, "sheet", 0, sort, 8);
                s.is(15, "game", 3, 0, 0);
                // What stood behind a shorter row does not come back with a longer one.
                s.cells(0, sort, 0, 0, 0, 0, 0, 0, 0, 7).is(1 + 4 + 8, "game", 3, 0, 0).is(1, "sheet", 0, sort, 2);
                s.is(1, "sheet", 0, sort, 8).is(15, "game", 3, 0, 0);
            }
        });
    }

    private static void cellPromise() {
        Sentence.of("Item i of a SHEET becomes v (of bytes, shorts its lowest 8, 16 bits): 1. BAD: no such SHEET; -11; -12.",
            s -> {
                s.go("sheet", 0, 0, 40).go("sheet", 3, 0, 1).go("sheet", 1, 0, 0);
                s.bounds(0, 0, 3, BAD, 1, 1, "cell", 0, 0, 7).bounds(1, 0, 39, OUTSIDE, 1, 1, "cell", 0, 0, 7);
                s.bounds(1, 0, 0, OUTSIDE, 1, 1, "cell", 3, 0, 7).no(OUTSIDE, "cell", 1, 0, 7);
                s.no(OUTSIDE, "cell", 1, -1, 7);
                s.no(NOTHING, "cell", 2, 0, 7).no(NOTHING, "cell", 2, -1, 7).no(NOTHING, "cell", 2, MOST, 7);
                s.no(BAD, "cell", 4, -1, 7).no(BAD, "cell", -1, 0, 7).is(1, "cell", 0, 0, MOST);
                s.is(1, "cell", 0, 0, LEAST);
            });
    }

    private static void cellsOfSorts() {
        Sentence.of("(of bytes, shorts its lowest 8, 16 bits)", s -> {
            int[][] bytes = {{9, 9}, {-9, -9}, {10, 10}, {-10, -10}, {127, 127}, {128, -128}, {246, -10}, {247, -9}, {255, -1},
                {256, 0}, {265, 9}, {-256, 0}, {-247, 9}, {65536 + 5, 5}, {MOST, -1}, {LEAST, 0}};
            int[][] shorts = {{9, 9}, {-9, -9}, {10, 10}, {256, 256}, {265, 265}, {32767, 32767}, {32768, -32768},
                {65526, -10}, {65527, -9}, {65535, -1}, {65536, 0}, {65545, 9}, {-65536, 0}, {-65527, 9}, {MOST, -1}, {LEAST, 0}};
            int[] ints = {9, -9, 10, -10, 256, 265, 65536, 65545, -65536, MOST, LEAST};
            for (int[] b : bytes) {
                reads(s, b[1], 0, b[0]);
            }
            for (int[] b : shorts) {
                reads(s, b[1], 1, b[0]);
            }
            for (int b : ints) {
                reads(s, b, 2, b);
            }
            s.again().riders(2).cells(0, 0, 126, 0, 127, 0, 128, 0, 0, 0).is(1, "game", 3, 0, 1);
            s.cells(0, 1, 128, 0, 32767, 0, 32768, 0, 0, 0).is(1, "game", 3, 0, 1);
            s.cells(0, 2, 32768, 0, 65536, 0, MOST, 0, LEAST, 0).is(2, "game", 3, 0, 1);
        });
    }

    // ---- copies

    /** Twelve riders, and texts by which three cells can be read when they have become a tenth. */
    private static Sentence readers(Sentence s) {
        return s.again().riders(12).rule("spend 50+slope;fill wind;pace 1;");
    }

    /** From an item on, the numbers of a sheet three by three. */
    private static void holds(Sentence s, int sheet, int sort, int... cells) {
        for (int i = 0; i < cells.length; i += 3) {
            int t = s.answer("count", 0);
            s.is(1, "tenths", sheet, sort, i, 1).is(50 + cells[i], "says", 0, t, 0, 0);
            s.is(cells[i + 1], "says", 0, t, 0, 1);
            s.is(cells[i + 2] % 2 == 1 ? Math.max(0, 12 - cells[i + 2] / 2) : 0, "split", 4095, t);
        }
    }

    private static void copyPromise() {
        Sentence.of("n numbers of a SHEET, from item i on, come to another one's item j on (as they were): n. "
            + "BAD: no such SHEET; -11; -13: they are of unlike sorts; -12 (also with n below 0).", s -> {
                readers(s).cells(0, 0, 1, 2, 3, 4, 5, 7).cells(1, 0, 9, 8, 9, 7, 6, 5, 3, 2, 11).go("sheet", 2, 1, 6);
                long[][] bad = {{4, 0, 0, 0, 1}, {0, 0, 4, 0, 1}, {-1, 0, 0, 0, 1}, {0, 0, -1, 0, 1}, {3, 0, 4, 0, 1},
                    {4, 9, 4, 9, -1}};
                long[][] nothing = {{0, 0, 3, 0, 1}, {3, 0, 0, 0, 1}, {3, 0, 3, 0, 1}, {2, -1, 3, 0, 0}, {3, 0, 2, 0, -1}};
                long[][] unlike = {{0, 0, 2, 0, 1}, {2, 0, 0, 0, 1}, {2, -1, 1, 9, -1}, {0, 0, 2, 0, 0}, {1, 0, 2, 0, 99}};
                long[][] outside = {{0, -1, 1, 0, 1}, {0, 0, 1, -1, 1}, {0, 0, 1, 0, -1}, {0, 6, 1, 0, 1}, {0, 0, 1, 9, 1},
                    {0, 0, 1, 0, 7}, {0, 1, 1, 0, 6}, {1, 0, 0, 0, 7}, {1, 0, 0, 1, 6}, {0, 7, 1, 0, 0}, {0, 0, 1, 10, 0},
                    {0, MOST, 1, 0, 1}, {0, 0, 1, MOST, 1}, {0, 0, 1, 0, MOST}, {0, 1, 1, 1, MOST}, {0, MOST, 1, MOST, MOST},
                    {0, LEAST, 1, 0, LEAST}, {0, 0, 1, 0, LEAST}, {0, 0, 1, LEAST, 1}, {0, 6, 1, 9, -1}, {0, -1, 1, 0, 0}};
                for (long[] args : bad) {
                    s.no(BAD, "copy", args);
                }
                for (long[] args : nothing) {
                    s.no(NOTHING, "copy", args);
                }
                for (long[] args : unlike) {
                    s.no(UNLIKE, "copy", args);
                }
                for (long[] args : outside) {
                    s.no(OUTSIDE, "copy", args);
                }
                s.is(0, "copy", 0, 6, 1, 9, 0).is(0, "copy", 0, 0, 1, 0, 0);
                holds(s, 1, 0, 9, 8, 9, 7, 6, 5, 3, 2, 11);
                s.is(2, "copy", 0, 4, 1, 7, 2);
                holds(s, 1, 0, 9, 8, 9, 7, 6, 5, 3, 5, 7);
                s.is(6, "copy", 0, 0, 1, 0, 6);
                holds(s, 1, 0, 1, 2, 3, 4, 5, 7, 3, 5, 7);
                holds(s, 0, 0, 1, 2, 3, 4, 5, 7);
            });
    }

    private static void copiesOverItself() {
        Sentence.of("(as they were)", s -> {
            for (int sort = 0; sort < 3; sort++) {
                readers(s).cells(0, sort, 1, 2, 3, 4, 5, 7).is(4, "copy", 0, 0, 0, 1, 4);
                holds(s, 0, sort, 1, 1, 2, 3, 4, 7);
                readers(s).cells(0, sort, 1, 2, 3, 4, 5, 7).is(4, "copy", 0, 1, 0, 0, 4);
                holds(s, 0, sort, 2, 3, 4, 5, 5, 7);
                readers(s).cells(0, sort, 1, 2, 3, 4, 5, 7).is(6, "copy", 0, 0, 0, 0, 6);
                holds(s, 0, sort, 1, 2, 3, 4, 5, 7);
                readers(s).go("sheet", 0, sort, 40).go("cell", 0, 0, 9).go("cell", 0, 2, 3).go("sheet", 3, sort, 40);
                s.is(40, "copy", 0, 0, 3, 0, 40).is(3, "copy", 0, 0, 3, 37, 3);
                holds(s, 3, sort, 9, 0, 3);
                s.is(1, "tenths", 3, sort, 37, 1).is(59, "says", 0, 1, 0, 0).no(OUTSIDE, "copy", 0, 0, 3, 0, 41);
                s.no(OUTSIDE, "copy", 0, 0, 3, 38, 3);
            }
        });
    }

    // ---- tenths by a sheet

    private static void tenthsPromise() {
        Sentence.of("TENTHS by a SHEET that is taken for one of a sort: from one on, three by three (as of tenth()), "
            + "n of them (0 .. 12): how many came (others are left out). BAD: no such SHEET, sort, n;", s -> {
                readers(s).go("sheet", 0, 2, 40).go("sheet", 3, 0, 3);
                for (int i = 0; i < 12; i++) {
                    s.go("cell", 0, 3 * i + 1, i - 4).go("cell", 0, 3 * i + 3, i % 3 - 1).go("cell", 0, 3 * i + 2, 5);
                }
                // The winds of the twelve are -4 to 7, their slopes 0 and then -1, 0, 1 in turn.
                s.is(0, "tenths", 0, 2, 0, 0).is(0, "count", 0).is(8, "tenths", 0, 2, 0, 12).is(8, "count", 0);
                for (int t = 0; t < 8; t++) {
                    s.is(t, "says", 0, t, 0, 1).is(49 + t % 3, "says", 0, t, 0, 0).is(10, "split", 4095, t);
                }
                s.is(0, "tenths", 0, 2, 4, 12).is(0, "tenths", 0, 2, 37, 1).no(OUTSIDE, "tenths", 0, 2, 38, 1);
                int[] sizes = {-1, 13, MOST, LEAST};
                for (int n : sizes) {
                    s.no(BAD, "tenths", 0, 2, 0, n).no(BAD, "tenths", 1, 0, 0, n).no(BAD, "tenths", 3, 1, 0, n);
                }
                s.no(BAD, "tenths", 0, 3, 0, 1).no(BAD, "tenths", 0, -1, 0, 1).no(BAD, "tenths", 1, 3, 0, 1);
                s.no(BAD, "tenths", 4, 2, 0, 1).no(BAD, "tenths", -1, 2, 0, 1).no(BAD, "tenths", MOST, 2, 0, 0);
                readers(s);
                s.cells(1, 1, -9, 0, 2, -10, 0, 2, 9, 9, 41, 10, 9, 41, 0, 0, 1, 0, 0, 42, 0, 10, 2, 0, -1, 2, 0, 9, 3);
                s.is(3, "tenths", 1, 1, 0, 9).is(3, "count", 0).is(41, "says", 0, 0, 0, 0).is(59, "says", 0, 1, 0, 0);
                s.is(9, "says", 0, 2, 0, 1).is(11, "split", 4095, 2).flat(36).is(1, "tenths", 1, 1, 0, 9);
                s.is(0, "tenths", 1, 1, 0, 9).is(40, "count", 0).is(41, "says", 0, 39, 0, 0);
            });
    }

    private static void tenthsAhead() {
        Sentence.of("-13; -11; -12: what stood ahead came.", s -> {
            readers(s).cells(0, 0, 1, 2, 3, 4, 5, 7, 6).no(UNLIKE, "tenths", 0, 1, 0, 1);
            s.no(UNLIKE, "tenths", 0, 2, -1, 0);
            for (int sort = 0; sort < 3; sort++) {
                s.no(NOTHING, "tenths", 2, sort, 0, 0).no(NOTHING, "tenths", 2, sort, -1, 12);
            }
            int[] from = {-1, -3, 5, 6, 7, 40, MOST, MOST - 2, MOST - 35, LEAST, LEAST + 1};
            for (int i : from) {
                s.no(OUTSIDE, "tenths", 0, 0, i, 1).no(OUTSIDE, "tenths", 0, 0, i, 12);
            }
            s.is(1, "tenths", 0, 0, 4, 1).is(1, "count", 0).is(OUTSIDE, "tenths", 0, 0, 0, 3).is(3, "count", 0);
            s.is(55, "says", 0, 0, 0, 0).is(51, "says", 0, 1, 0, 0).is(54, "says", 0, 2, 0, 0);
            s.is(5, "says", 0, 2, 0, 1);
            s.is(OUTSIDE, "tenths", 0, 0, 1, 12).is(5, "count", 0).is(52, "says", 0, 3, 0, 0);
            s.is(55, "says", 0, 4, 0, 0);
            s.is(OUTSIDE, "tenths", 0, 0, 4, 2).is(6, "count", 0).is(OUTSIDE, "tenths", 0, 0, 2, 2).is(7, "count", 0);
            // One that is left out does not end it; nor does a road that is full.
            s.cells(0, 0, 10, 0, 3, 1, 2, 3, 4).is(OUTSIDE, "tenths", 0, 0, 0, 3).is(8, "count", 0).flat(32);
            s.no(OUTSIDE, "tenths", 0, 0, 0, 3).is(0, "tenths", 0, 0, 0, 2).go("sheet", 0, 0, 0);
            s.no(OUTSIDE, "tenths", 0, 0, 0, 1).is(0, "tenths", 0, 0, 0, 0);
        });
    }

    // ---- kinds

    private static void takenPromise() {
        Sentence.of("A RIDER taken for one of KIND k (0 .. 5), or one under that one (also by others between): its NUMBER. "
            + "BAD: k; -11: no such RIDER; -13.", s -> {
                s.no(NOTHING, "taken", 0, 0).no(BAD, "taken", 0, 6).no(BAD, "taken", 0, -1);
                s.go("rider", 3, 38, 50, 0).go("rider", 5, 29, 50, 0).go("rider", 0, 10, 50, 0);
                s.go("rider", 4, 0, 50, 0).riders(8);
                s.is(8, "taken", 0, 3).is(8, "taken", 0, 2).is(8, "taken", 0, 0).no(UNLIKE, "taken", 0, 1);
                s.no(UNLIKE, "taken", 0, 4).no(UNLIKE, "taken", 0, 5);
                s.is(9, "taken", 1, 5).is(9, "taken", 1, 1).is(9, "taken", 1, 0).no(UNLIKE, "taken", 1, 2);
                s.no(UNLIKE, "taken", 1, 3).no(UNLIKE, "taken", 1, 4).is(0, "taken", 2, 0).is(0, "taken", 3, 4);
                for (int k = 1; k <= 5; k++) {
                    s.no(UNLIKE, "taken", 2, k);
                }
                s.bounds(0, 0, 11, NOTHING, 8, 0, "taken", 0, 0).bounds(1, 0, 5, BAD, 9, 9, "taken", 1, 0);
                s.no(BAD, "taken", 12, 6).no(BAD, "taken", -1, -1).no(NOTHING, "taken", 12, 5);
                s.no(NOTHING, "taken", -1, 5);
            });
    }
}
