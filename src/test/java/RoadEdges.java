/** The document's sentences on the road and on riders, promises 1 to 6 with them. */
final class RoadEdges extends Edges {
    private static final int RIDER = 0, PULLER = 1, SITTER = 2, REFUSER = 3, FAST = 4, CLOSER = 5;
    private static final int WORKS = 5, STAYS = 6, ENDS = 7;

    private RoadEdges() { }

    static void all() {
        newObject();
        road();
        riders();
        kinds();
        numbers();
        refusals();
        works();
        worksByNumber();
        stays();
        ends();
        addPromises();
        setPromise();
        toldPromise();
        housePromise();
    }

    private static void newObject() {
        Sentence.of("No ROAD, no RIDERS.", s -> {
            s.is(0, "count", 0).is(0, "count", 1).is(1, "count", 2);
            for (int what = 3; what <= 6; what++) {
                s.is(0, "count", what);
            }
            s.no(BAD, "told", 0, 0, 0).no(BAD, "ride", 1, 0, 0).no(STATE, "back").is(0, "house", 0);
            for (int sheet = 0; sheet < 4; sheet++) {
                s.no(NOTHING, "cell", sheet, 0, 1);
            }
        });
    }

    private static void road() {
        Sentence.of("THE ROAD has TENTHS (0 .. 40 of them, numbered from 0):", s -> {
            s.riders(1).is(0, "count", 0).no(BAD, "says", 0, 0, 0, 0);
            s.counted(40, 0, "tenth", 0, 0, 20).is(40, "count", 0);
            s.is(12, "says", 0, 0, 0, 0).is(12, "says", 0, 39, 0, 0).no(BAD, "says", 0, 40, 0, 0);
            s.no(FULL, "tenth", 0, 0, 20).is(40, "count", 0);
        });
        Sentence.of("SLOPE (-9 .. 9),", s -> {
            s.bounds(0, -9, 9, BAD, 0, 1, "tenth", 0, 0, 20).is(2, "count", 0).riders(1);
            s.is(59, "says", 0, 0, 0, 2).is(41, "says", 0, 1, 0, 2);
        });
        Sentence.of("WIND (0 .. 9),", s -> {
            s.bounds(1, 0, 9, BAD, 0, 1, "tenth", 0, 0, 20).is(2, "count", 0).riders(1);
            s.is(50, "says", 0, 0, 0, 2).is(41, "says", 0, 1, 0, 2);
        });
        Sentence.of("SIDE (0: from ahead, 1: from the side),", s -> {
            s.riders(4).is(0, "tenth", 0, 5, 2 * 3).is(1, "tenth", 0, 5, 2 * 3 + 1);
            s.is(0, "split", 15, 0).is(1, "split", 15, 1);
            s.is(3, "says", 0, 0, 3, 1).is(0, "says", 0, 1, 3, 1);
        });
        Sentence.of("WIDE (1 .. 20).", s -> {
            s.riders(12).bounds(2, 2, 41, BAD, 0, 1, "tenth", 0, 0, 20);
            s.is(2, "tenth", 0, 0, 3).is(3, "tenth", 0, 0, 40).no(BAD, "tenth", 0, 0, 0).no(BAD, "tenth", 0, 0, 43);
            s.is(4, "count", 0).is(11, "split", 4095, 2).is(0, "split", 4095, 1);
            s.is(0, "says", 0, 2, 1, 1).is(1, "says", 0, 0, 1, 1).is(11, "says", 0, 1, 11, 1);
            s.is(4, "tenth", 0, 0, 2 * 11 + 1).is(5, "tenth", 0, 0, 2 * 12 + 1);
            s.is(1, "split", 4095, 4).is(0, "split", 4095, 5);
        });
    }

    private static void riders() {
        Sentence.of("RIDERS (12 at most, numbered from 0)", s -> {
            s.is(0, "count", 1).no(BAD, "told", 0, 0, 0).counted(12, 0, "rider", 0, 0, 50, 500);
            s.no(FULL, "rider", 0, 0, 50, 500).is(12, "count", 1);
            s.is(500, "told", 0, 0, 3).is(500, "told", 11, 0, 3).no(BAD, "told", 12, 0, 3).no(BAD, "told", -1, 0, 3);
        });
        Sentence.of("a HOUSE (0 .. 3),", s -> {
            s.bounds(1, 0, 39, BAD, 0, 1, "rider", 0, 0, 50, 500).is(2, "count", 1);
            s.is(0, "told", 0, 0, 1).is(3, "told", 1, 0, 1);
            s.is(2, "rider", 0, 9, 50, 500).is(3, "rider", 0, 10, 50, 500).is(4, "rider", 0, 30, 50, 500);
            s.is(0, "told", 2, 0, 1).is(1, "told", 3, 0, 1).is(3, "told", 4, 0, 1);
        });
        Sentence.of("POWER (1 .. 99),", s -> {
            s.bounds(2, 1, 99, BAD, 0, 1, "rider", 0, 0, 50, 500).is(2, "count", 1);
            s.is(1, "told", 0, 0, 2).is(99, "told", 1, 0, 2);
        });
        Sentence.of("STORE (0 .. 999),", s -> {
            s.bounds(3, 0, 999, BAD, 0, 1, "rider", 0, 0, 50, 500).is(2, "count", 1);
            s.is(0, "told", 0, 0, 3).is(999, "told", 1, 0, 3);
        });
        Sentence.of("a NUMBER (0 .. 9).", s -> {
            for (int number = 0; number <= 9; number++) {
                s.is(number, "rider", 0, 10 * (number % 4) + number, 50, 500).is(number, "told", number, 0, 4);
            }
        });
    }

    private static void kinds() {
        Sentence.of("have a KIND: 0 RIDER, 1 PULLER under RIDER, 2 SITTER under RIDER, 3 REFUSER under SITTER, "
            + "4 FAST under RIDER, 5 CLOSER under PULLER;", s -> {
                s.bounds(0, 0, 5, BAD, 0, 1, "rider", 0, 7, 50, 500);
                s.is(RIDER, "told", 0, 0, 0).is(CLOSER, "told", 1, 0, 0).is(2, "count", 1).again();
                String[] under = {"100000", "110000", "101000", "101100", "100010", "110001"};
                for (int kind = RIDER; kind <= CLOSER; kind++) {
                    s.is(kind, "rider", kind, kind, 50, 500).is(kind, "told", kind, 0, 0);
                    for (int k = RIDER; k <= CLOSER; k++) {
                        if (under[kind].charAt(k) == '1') {
                            s.is(kind, "taken", kind, k);
                        } else {
                            s.no(UNLIKE, "taken", kind, k);
                        }
                    }
                }
            });
    }

    private static void numbers() {
        Sentence.of("NONE is -1; NO, where a long is answered, -4611686018427387904.", s -> {
            Due.is("NONE", NobodyFirst.NONE, NONE);
            Due.is("NO", NobodyFirst.NO, NO);
            s.flat(1).riders(2).is(NONE, "wrong", 1, 0).is(NONE, "caught", 1, 2, 0, 1, 0);
            s.no(NO, "worth", 0, 0, 12).no(NO, "spent", 1, 0, 1).no(NO, "turns", 0, 0, 0);
            s.no(NO, "caught", 1, 1, 0, 0, 0).no(NO, "clock", 1, 1, 0, 0, 101);
        });
        Sentence.of("Quotients are cut toward 0.", s -> {
            s.flat(1).riders(2).go("set", 0, 0, 51).go("set", 1, 0, 99).is(25 + 99, "train", 3, 1);
            s.is(0, "clock", 1, 2, 0, 2, 302).is(1, "clock", 1, 2, 0, 1, 302);
            // -1 to -99 by 100 are 0, but what is left of them is below 0.
            s.no(BAD, "ride", 1, -1, 0).no(BAD, "ride", 1, -99, 0).no(BAD, "ride", 1, -100, 0);
            s.no(NO, "clock", 1, 2, 0, 0, -1).no(NO, "clock", 1, 2, 0, 0, -101);
        });
    }

    private static void refusals() {
        Sentence.of("Refusals, the first that the call's words name; they change nothing: BAD (-2: a number is none such "
            + "or not as told), STATE (-3), FULL (-4);", s -> {
                Due.is("BAD", NobodyFirst.BAD, BAD);
                Due.is("STATE", NobodyFirst.STATE, STATE);
                Due.is("FULL", NobodyFirst.FULL, FULL);
                s.no(STATE, "back").flat(40).riders(12).no(STATE, "back");
                s.no(FULL, "tenth", 0, 0, 20).no(BAD, "tenth", 10, 0, 20).no(BAD, "tenth", 0, 0, 42);
                s.no(FULL, "rider", 0, 0, 50, 500).no(BAD, "rider", 0, 0, 50, 1000).no(BAD, "rider", 6, 0, 50, 500);
                s.tape(" ".repeat(160)).no(FULL, "feed", 1, 0).no(BAD, "feed", 9, 0);
            });
        Sentence.of("the host's: -11 nothing where something is asked, -12 a place outside, -13 a thing of another sort "
            + "or KIND, -14 a size below 0.", s -> {
                s.riders(3).go("sheet", 1, 0, 3).go("sheet", 2, 2, 8);
                s.no(BAD, "cell", 4, -1, 0).no(NOTHING, "cell", 0, -1, 0).no(OUTSIDE, "cell", 1, -1, 0);
                s.no(BAD, "copy", 0, -1, 4, -1, -1).no(NOTHING, "copy", 1, -1, 0, -1, -1);
                s.no(UNLIKE, "copy", 1, -1, 2, -1, -1).no(OUTSIDE, "copy", 1, -1, 1, -1, -1);
                s.no(BAD, "tenths", 0, 0, -1, 13).no(NOTHING, "tenths", 0, 0, -1, 1);
                s.no(UNLIKE, "tenths", 1, 1, -1, 1).no(OUTSIDE, "tenths", 1, 0, -1, 1);
                s.no(BAD, "taken", 3, 6).no(NOTHING, "taken", 3, 5).no(UNLIKE, "taken", 2, 5);
                s.no(BAD, "sheet", 4, 0, -1).no(BAD, "sheet", 0, 3, -1).no(BELOW, "sheet", 0, 0, -1);
                s.no(BAD, "game", 1, 0, 0).no(BAD, "game", 3, 0, 2).no(NOTHING, "game", 3, 0, 0);
                s.no(BAD, "game", 3, 1, 0).is(15, "game", 3, 2, 0);
            });
    }

    // ---- what kinds do

    /** Of a rider of a kind with a number and a store: whether it works with so many tenths left. */
    private static void worksIs(Sentence s, int due, int kind, int number, int store, int left) {
        s.again().is(0, "rider", kind, number, 50, store).is(due, "told", 0, left, WORKS);
    }

    private static void works() {
        Sentence.of("WORKS (with so many TENTHS left): RIDER: STORE is above 100;", s -> {
            worksIs(s, 0, RIDER, 5, 0, 5);
            worksIs(s, 0, RIDER, 5, 100, 5);
            worksIs(s, 1, RIDER, 5, 101, 5);
            worksIs(s, 1, RIDER, 5, 101, 6);
            worksIs(s, 1, RIDER, 0, 999, 40);
        });
        Sentence.of("PULLER: STORE is above 20;", s -> {
            worksIs(s, 0, PULLER, 5, 20, 5);
            worksIs(s, 1, PULLER, 5, 21, 5);
            worksIs(s, 1, PULLER, 5, 21, 6);
            worksIs(s, 1, PULLER, 0, 101, 40);
        });
        Sentence.of("REFUSER: never;", s -> {
            for (int left = 0; left <= 40; left += 20) {
                worksIs(s, 0, REFUSER, 0, 999, left);
                worksIs(s, 0, REFUSER, 9, 999, left);
            }
            worksIs(s, 0, REFUSER, 9, 101, 9);
            worksIs(s, 0, REFUSER, 9, 101, 10);
        });
        Sentence.of("(With STORE 0 nobody.)", s -> {
            for (int kind = RIDER; kind <= CLOSER; kind++) {
                worksIs(s, 0, kind, 5, 0, 0);
                worksIs(s, 0, kind, 5, 0, 5);
                worksIs(s, 0, kind, 5, 0, 6);
            }
            worksIs(s, 1, CLOSER, 5, 1, 0);
            worksIs(s, 1, CLOSER, 5, 1, 5);
        });
    }

    private static void worksByNumber() {
        Sentence.of("SITTER: as a RIDER, and at most NUMBER are left;", s -> {
            for (int number = 0; number <= 9; number += 3) {
                worksIs(s, 1, SITTER, number, 101, number);
                worksIs(s, 0, SITTER, number, 101, number + 1);
                worksIs(s, 0, SITTER, number, 100, number);
                worksIs(s, 1, SITTER, number, 999, 0);
                worksIs(s, 0, SITTER, number, 999, 40);
            }
        });
        Sentence.of("FAST: as a RIDER, and more than NUMBER are left;", s -> {
            for (int number = 0; number <= 9; number += 3) {
                worksIs(s, 0, FAST, number, 101, number);
                worksIs(s, 1, FAST, number, 101, number + 1);
                worksIs(s, 0, FAST, number, 100, number + 1);
                worksIs(s, 0, FAST, number, 999, 0);
                worksIs(s, 1, FAST, number, 999, 40);
            }
        });
        Sentence.of("CLOSER: as a PULLER, or at most NUMBER are left.", s -> {
            for (int number = 0; number <= 9; number += 3) {
                worksIs(s, 1, CLOSER, number, 20, number);
                worksIs(s, 0, CLOSER, number, 20, number + 1);
                worksIs(s, 1, CLOSER, number, 21, number + 1);
                worksIs(s, 1, CLOSER, number, 21, 40);
                worksIs(s, 1, CLOSER, number, 999, 0);
            }
        });
    }

    /** What a kind answers with each number from 0 to 9, and a power. */
    private static void byNumber(Sentence s, int kind, int power, int what, int... due) {
        s.again();
        for (int number = 0; number <= 9; number++) {
            s.go("rider", kind, number, power, 0).is(due[number], "told", number, 0, what);
        }
    }

    private static void stays() {
        int[] one = {1, 1, 1, 1, 1, 1, 1, 1, 1, 1};
        Sentence.of("STAYS (TENTHS at the front): RIDER 1;", s -> byNumber(s, RIDER, 50, STAYS, one));
        Sentence.of("PULLER: NUMBER by 3 (cut) more than a RIDER;",
            s -> byNumber(s, PULLER, 50, STAYS, 1, 1, 1, 2, 2, 2, 3, 3, 3, 4));
        Sentence.of("SITTER as a RIDER;", s -> byNumber(s, SITTER, 50, STAYS, one));
        Sentence.of("REFUSER as a SITTER;", s -> byNumber(s, REFUSER, 50, STAYS, one));
        Sentence.of("FAST as a RIDER;", s -> byNumber(s, FAST, 50, STAYS, one));
        Sentence.of("CLOSER: twice a PULLER's.",
            s -> byNumber(s, CLOSER, 50, STAYS, 2, 2, 2, 4, 4, 4, 6, 6, 6, 8));
    }

    private static void ends() {
        Sentence.of("ENDS (how fast in the last TENTH): RIDER: POWER;", s -> {
            byNumber(s, RIDER, 1, ENDS, 1, 1, 1, 1, 1, 1, 1, 1, 1, 1);
            byNumber(s, RIDER, 99, ENDS, 99, 99, 99, 99, 99, 99, 99, 99, 99, 99);
        });
        Sentence.of("PULLER: NUMBER less than a RIDER;",
            s -> byNumber(s, PULLER, 50, ENDS, 50, 49, 48, 47, 46, 45, 44, 43, 42, 41));
        Sentence.of("SITTER: as a RIDER and NUMBER;",
            s -> byNumber(s, SITTER, 99, ENDS, 99, 100, 101, 102, 103, 104, 105, 106, 107, 108));
        Sentence.of("REFUSER: 1 more than a SITTER;",
            s -> byNumber(s, REFUSER, 99, ENDS, 100, 101, 102, 103, 104, 105, 106, 107, 108, 109));
        Sentence.of("FAST: a RIDER's and three times NUMBER;",
            s -> byNumber(s, FAST, 99, ENDS, 99, 102, 105, 108, 111, 114, 117, 120, 123, 126));
        Sentence.of("CLOSER as a PULLER.",
            s -> byNumber(s, CLOSER, 50, ENDS, 50, 49, 48, 47, 46, 45, 44, 43, 42, 41));
        Sentence.of("(0 at least.)", s -> {
            byNumber(s, PULLER, 5, ENDS, 5, 4, 3, 2, 1, 0, 0, 0, 0, 0);
            byNumber(s, CLOSER, 1, ENDS, 1, 0, 0, 0, 0, 0, 0, 0, 0, 0);
        });
    }

    // ---- promises 2 to 6

    private static void addPromises() {
        Sentence.of("A TENTH (wide: 2 times WIDE, and SIDE): its number. BAD; FULL.", s -> {
            s.riders(3).is(0, "tenth", -9, 0, 2).is(1, "tenth", 9, 9, 41).is(2, "tenth", 0, 0, 3);
            s.is(0, "split", 7, 0).is(0, "split", 7, 1).is(2, "split", 7, 2);
            s.counted(37, 3, "tenth", 0, 0, 20).no(FULL, "tenth", 0, 0, 20).no(FULL, "tenth", -9, 9, 41);
            s.no(BAD, "tenth", -10, 0, 20).no(BAD, "tenth", 0, -1, 20).no(BAD, "tenth", 0, 0, 1);
        });
        Sentence.of("A RIDER (house: 10 times HOUSE, and NUMBER): its number. BAD; FULL.", s -> {
            s.is(0, "rider", 0, 0, 1, 0).is(1, "rider", 5, 39, 99, 999).is(2, "rider", 3, 21, 7, 8);
            int[] due = {3, 2, 7, 8, 1};
            for (int what = 0; what < due.length; what++) {
                s.is(due[what], "told", 2, 0, what);
            }
            s.counted(9, 3, "rider", 0, 0, 50, 500).no(FULL, "rider", 0, 0, 50, 500).no(FULL, "rider", 5, 39, 99, 999);
            s.no(BAD, "rider", -1, 0, 50, 500).no(BAD, "rider", 0, 40, 50, 500);
            s.no(BAD, "rider", 0, 0, 0, 500).no(BAD, "rider", 0, 0, 50, -1);
        });
    }

    private static void setPromise() {
        Sentence.of("POWER (what 0), STORE (1) of a RIDER become v: what was. BAD.", s -> {
            s.riders(12).bounds(2, 1, 99, BAD, 50, 1, "set", 11, 0, 0).is(99, "told", 11, 0, 2);
            s.is(500, "told", 11, 0, 3);
            s.again().riders(12).bounds(2, 0, 999, BAD, 500, 0, "set", 11, 1, 0);
            s.is(999, "told", 11, 0, 3).is(50, "told", 11, 0, 2);
            s.again().riders(12).bounds(0, 0, 11, BAD, 500, 500, "set", 0, 1, 7).is(5014, "count", 6);
            s.again().riders(2).bounds(1, 0, 1, BAD, 50, 500, "set", 1, 0, 9);
            s.is(9, "told", 1, 0, 2).is(9, "told", 1, 0, 3).is(50, "told", 0, 0, 2).is(500, "told", 0, 0, 3);
            s.is(9, "set", 1, 0, 9).again().no(BAD, "set", 0, 0, 9);
        });
    }

    private static void toldPromise() {
        Sentence.of("Of a RIDER with so many TENTHS left (0 .. 40): 0 KIND, 1 HOUSE, 2 POWER, 3 STORE, 4 NUMBER, "
            + "5 whether it WORKS, 6 STAYS, 7 ENDS. BAD.", s -> {
                s.go("rider", CLOSER, 37, 61, 20);
                int[] due = {CLOSER, 3, 61, 20, 7, 1, 6, 54};
                for (int what = 0; what < due.length; what++) {
                    s.bounds(1, 0, 40, BAD, due[what], what == WORKS ? 0 : due[what], "told", 0, 0, what);
                }
                s.bounds(2, 0, 7, BAD, CLOSER, 54, "told", 0, 0, 0).is(1, "told", 0, 7, WORKS);
                s.is(0, "told", 0, 8, WORKS);
                s.again().go("rider", SITTER, 0, 9, 0).riders(10).go("rider", FAST, 3, 9, 0);
                s.bounds(0, 0, 11, BAD, 9, 18, "told", 0, 0, ENDS).again().no(BAD, "told", 0, 0, 0);
            });
    }

    private static void housePromise() {
        Sentence.of("RIDERS of a HOUSE (bits). BAD.", s -> {
            s.is(0, "house", 0).is(0, "house", 3).go("rider", 0, 30, 50, 0).go("rider", 0, 9, 50, 0);
            s.riders(9).go("rider", 0, 39, 50, 0).bounds(0, 0, 3, BAD, 2046, 2049, "house", 0);
            s.is(0, "house", 1).is(0, "house", 2).again();
            for (int r = 0; r < 12; r++) {
                s.go("rider", 0, 10, 50, 0).is((2 << r) - 1, "house", 1);
            }
        });
    }
}
