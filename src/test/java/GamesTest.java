/** Promises 17 to 26: game, goes, train, split, film, wrong, clock, image, back, count. */
public final class GamesTest {
    public static void main(String[] args) {
        gameOfTwo();
        gameOfThree();
        gameOfGreatNumbers();
        refusesGames();
        goes();
        goesFromNobody();
        refusesGoes();
        train();
        refusesTrain();
        split();
        film();
        wrong();
        clock();
        refusesClock();
        imageAndBack();
        backLeavesNewRiders();
        count();
        Due.end();
    }

    private static NobodyFirst riders(int n) {
        NobodyFirst x = Due.flat(4);
        for (int i = 0; i < n; i++) {
            x.rider(0, 0, 40, 500);
        }
        return x;
    }

    private static void cells(NobodyFirst x, int sheet, int sort, int... cells) {
        x.sheet(sheet, sort, cells.length);
        for (int i = 0; i < cells.length; i++) {
            x.cell(sheet, i, cells[i]);
        }
    }

    private static void gameOfTwo() {
        NobodyFirst x = riders(5);
        // Each wants the other one to help: both choices in which one helps rest.
        cells(x, 0, 0, 0, 0, 2, 5, 5, 2, 3, 3);
        Due.is("rests", x.game(3, 0, 0), 6);
        Due.is("rests, others", x.game(18, 0, 0), 6);
        Due.is("good, of like ones the least", x.game(3, 0, 1), 1);
        cells(x, 1, 2, 1, 1, 1, 1, 1, 1, 1, 1);
        Due.is("all like: all rest", x.game(3, 1, 0), 15);
        Due.is("all like: good", x.game(3, 1, 1), 0);
        // What one wants the other one does not.
        cells(x, 2, 1, 1, -1, -1, 1, -1, 1, 1, -1);
        Due.is("no rest", x.game(3, 2, 0), 0);
        cells(x, 3, 1, -9, -9, -1, -3, -9, -9, -2, -1);
        Due.is("good below 0", x.game(3, 3, 1), 3);
        cells(x, 3, 0, 0, 0, 5, -4, 0, 0, -9, 0);
        Due.is("good by what the least rider gets", x.game(3, 3, 1), 1);
        // The least rider's choice is the lowest bit: only it gains by choice 1.
        cells(x, 0, 0, 0, 0, 7, 0, 0, 0, 7, -1);
        Due.is("whose bit", x.game(12, 0, 0), 2);
    }

    private static void gameOfThree() {
        NobodyFirst x = riders(5);
        int[] cells = new int[24];
        // Each gets 1 for each other one who helps, and pays 1 by helping.
        for (int choice = 0; choice < 8; choice++) {
            for (int i = 0; i < 3; i++) {
                int helps = choice >> i & 1;
                cells[choice * 3 + i] = 2 * (Integer.bitCount(choice) - helps) - helps;
            }
        }
        cells(x, 0, 0, cells);
        Due.is("rests of three", x.game(7, 0, 0), 1);
        Due.is("rests of three others", x.game(21, 0, 0), 1);
        Due.is("good of three", x.game(7, 0, 1), 7);
    }

    private static void gameOfGreatNumbers() {
        NobodyFirst x = riders(2);
        int most = Integer.MAX_VALUE;
        int least = Integer.MIN_VALUE;
        cells(x, 0, 2, least, least, 0, 0, most, most, least, most);
        Due.is("all together beyond an int", x.game(3, 0, 1), 2);
        Due.is("rests of great numbers", x.game(3, 0, 0), 4);
    }

    private static void refusesGames() {
        NobodyFirst x = riders(4);
        x.sheet(0, 0, 8);
        x.sheet(1, 0, 24);
        x.sheet(3, 0, 9);
        int[][] bad = {{0, 0, 0}, {1, 0, 0}, {15, 1, 0}, {17, 0, 0}, {-1, 0, 0}, {3, 4, 0}, {3, -1, 0}, {3, 0, 2},
            {3, 0, -1}, {3, 1, 0}, {7, 0, 0}, {3, 3, 0}, {3, 2, 2}, {1, 2, 0}, {15, 2, 0}};
        for (int[] b : bad) {
            Due.is("game, bad " + b[0] + " " + b[1] + " " + b[2], x.game(b[0], b[1], b[2]), NobodyFirst.BAD);
        }
        Due.is("game, no sheet", x.game(3, 2, 0), -11);
        Due.is("game, all 0", x.game(3, 0, 0), 15);
        Due.is("game of three, all 0", x.game(7, 1, 0), 255);
        x.sheet(2, 0, 0);
        Due.is("game, an empty sheet", x.game(3, 2, 0), NobodyFirst.BAD);
    }

    private static void goes() {
        NobodyFirst x = Due.flat(4);
        x.rider(0, 0, 40, 900);
        x.rider(0, 0, 50, 900);
        x.rider(0, 0, 50, 36);
        x.rider(0, 0, 60, 24);
        Due.is("the faster one goes at once", x.goes(1, 1), 0);
        Due.is("the slower one never", x.goes(0, 2), NobodyFirst.NONE);
        Due.is("from two of whom only the slower one works", x.goes(1, 5), 0);
        Due.is("one as fast is at its wheel", x.goes(1, 4), NobodyFirst.NONE);
        Due.is("store 36 lasts for two tenths", x.goes(2, 1), 2);
        Due.is("store 24 lasts for one", x.goes(3, 1), 3);
        Due.is("in the group itself", x.goes(1, 3), 0);
        Due.is("the stores", x.count(6), 1860);
        x.set(0, 0, 49);
        Due.is("one faster by 1", x.goes(1, 1), 0);
        Due.is("no road", new NobodyFirst().goes(0, 1), NobodyFirst.BAD);
        NobodyFirst y = new NobodyFirst();
        y.rider(0, 0, 40, 900);
        Due.is("no tenths", y.goes(0, 1), NobodyFirst.NONE);
    }

    /** A group with nobody left goes at pace 1: one at pace 1 does not get away even from that. */
    private static void goesFromNobody() {
        NobodyFirst x = new NobodyFirst();
        x.tenth(9, 9, 20);
        x.tenth(0, 0, 20);
        x.rider(0, 0, 10, 900);
        Due.is("alone, from where it goes faster", x.goes(0, 1), 1);
    }

    private static void refusesGoes() {
        NobodyFirst x = riders(2);
        int[][] bad = {{2, 1}, {-1, 1}, {0, 0}, {0, 4}, {0, -1}, {Integer.MIN_VALUE, 1}, {32, 1}};
        for (int[] b : bad) {
            Due.is("goes, bad", x.goes(b[0], b[1]), NobodyFirst.BAD);
        }
    }

    private static void train() {
        NobodyFirst x = new NobodyFirst();
        x.rider(0, 0, 40, 0);
        x.rider(4, 7, 29, 0);
        x.rider(1, 5, 50, 0);
        x.rider(0, 0, 10, 0);
        // ENDS are 40, 50, 45, 10. Of two: the better one last.
        Due.is("of 1 and 2", x.train(6, 0), 2 * 12 + 1);
        Due.is("of 1 and 2: has", x.train(6, 1), 72);
        // 40, 45 + 20, 50 + 32.
        Due.is("of three", x.train(7, 0), 2 * 12 + 1);
        Due.is("of three: has", x.train(7, 1), 82);
        // 10, 40 + 5, 45 + 22, 50 + 33.
        Due.is("of four", x.train(15, 0), 3 * 1728 + 2 * 12 + 1);
        Due.is("of four: has", x.train(15, 1), 83);
        x.set(0, 0, 99);
        Due.is("rider 0 last", x.train(15, 0), 3 * 1728 + 2 * 144 + 12);
        Due.is("rider 0 last: has", x.train(15, 1), 136);
        NobodyFirst y = riders(12);
        Due.is("like ones", y.train(0xc01, 0), 10 * 12 + 11);
        Due.is("like ones: has", y.train(0xc01, 1), 70);
        NobodyFirst z = new NobodyFirst();
        z.rider(0, 0, 1, 0);
        z.rider(0, 0, 1, 0);
        z.rider(0, 0, 9, 0);
        // Half of 1 is 0, and 1 and 9 by 2 is less than 9: the 9 comes last with nothing given.
        Due.is("half is cut", z.train(7, 1), 9);
        Due.is("half is cut: order", z.train(7, 0), 14);
    }

    private static void refusesTrain() {
        NobodyFirst x = riders(5);
        int[][] bad = {{0, 0}, {1, 0}, {31, 0}, {33, 0}, {-1, 0}, {3, 2}, {3, -1}};
        for (int[] b : bad) {
            Due.is("train, bad", x.train(b[0], b[1]), NobodyFirst.BAD);
        }
    }

    private static void split() {
        NobodyFirst x = new NobodyFirst();
        x.tenth(0, 5, 2 * 3 + 1);
        x.tenth(0, 5, 2 * 3);
        x.tenth(0, 5, 2 + 1);
        for (int i = 0; i < 12; i++) {
            x.rider(0, 0, 40, 500);
        }
        Due.is("twelve, three wide", x.split(4095, 0), 9);
        Due.is("three, three wide", x.split(0x902, 0), 0);
        Due.is("two, three wide", x.split(3, 0), 0);
        Due.is("no side wind", x.split(4095, 1), 0);
        Due.is("one wide", x.split(3, 2), 1);
        int[][] bad = {{0, 0}, {4096, 0}, {-1, 0}, {1, 3}, {1, -1}};
        for (int[] b : bad) {
            Due.is("split, bad", x.split(b[0], b[1]), NobodyFirst.BAD);
        }
    }

    private static void film() {
        NobodyFirst x = riders(2);
        for (int i = 4; i < 40; i++) {
            x.tenth(0, 0, 20);
        }
        Due.is("film", x.film(0, 39, 1), 0);
        Due.is("film again", x.film(0, 39, 1), 1);
        Due.is("another one", x.film(1, 39, 0), 0);
        Due.is("another tenth", x.film(0, 38, 1), 0);
        Due.is("filmed", x.count(5), 2);
        Due.is("not filmed", x.film(0, 39, 0), 1);
        Due.is("not filmed again", x.film(0, 39, 0), 0);
        int[][] bad = {{2, 0, 1}, {-1, 0, 1}, {0, 40, 1}, {0, -1, 1}, {0, 0, 2}, {0, 0, -1}};
        for (int[] b : bad) {
            Due.is("film, bad", x.film(b[0], b[1], b[2]), NobodyFirst.BAD);
        }
        Due.is("filmed at the end", x.count(5), 1);
    }

    private static void wrong() {
        NobodyFirst x = riders(3);
        x.set(2, 1, 2);
        // Of 0 and 1 the fronts are 0, 1, 0, 1.
        x.film(0, 0, 1);
        x.film(1, 1, 1);
        Due.is("all as filmed", x.wrong(3, 3), NobodyFirst.NONE);
        x.film(1, 2, 1);
        Due.is("not the front", x.wrong(3, 3), 2);
        Due.is("behind the ride", x.wrong(3, 1), NobodyFirst.NONE);
        Due.is("another ride", x.wrong(3, 202), 2);
        Due.is("alone it was", x.wrong(2, 3), NobodyFirst.NONE);
        x.film(0, 2, 1);
        Due.is("the front and another one", x.wrong(3, 3), 2);
        Due.is("others do not matter", x.wrong(4, 3), NobodyFirst.NONE);
        x.film(0, 1, 1);
        Due.is("rider 0 is not the front", x.wrong(3, 3), 1);
        x.film(0, 1, 0);
        x.film(2, 1, 1);
        Due.is("who fell back before", x.wrong(4, 3), 1);
        Due.is("who fell back behind others", x.wrong(7, 3), 1);
        int[][] bad = {{0, 0}, {8, 0}, {-1, 0}, {1, 4}, {1, 100}, {1, -1}};
        for (int[] b : bad) {
            Due.is("wrong, bad", x.wrong(b[0], b[1]), NobodyFirst.BAD);
        }
    }

    private static void clock() {
        NobodyFirst x = Due.flat(5);
        x.rider(0, 0, 40, 900);
        x.rider(0, 0, 50, 900);
        // 10 times as many as are left: 50, 40, 30, 20, 10; the gap ahead of 1: 35, 45, 55 ..; of 0: 45, 35 ..
        Due.is("the faster one ahead", x.clock(2, 1, 4, 35, 1001), 1);
        Due.is("the slower one ahead", x.clock(1, 2, 4, 45, 1001), 31);
        Due.is("exactly as much", x.clock(1, 2, 4, 50, 1001), 31);
        Due.is("one more", x.clock(1, 2, 4, 51, 1001), 0);
        // 7 times 5, 4, 3, 2, 1 by 2: 17, 14, 10, 7, 3.
        Due.is("cut", x.clock(2, 1, 0, 17, 702), 1);
        Due.is("above what is cut", x.clock(2, 1, 0, 18, 702), 0);
        Due.is("from 2 to 3", x.clock(1, 2, 203, 17, 702), 8);
        Due.is("most", x.clock(1, 2, 4, 495, 9901), 1);
        Due.is("above the most", x.clock(1, 2, 4, 496, 9901), 0);
        Due.is("least", x.clock(1, 2, 4, 0, 120), 31);
        Due.is("least, above it", x.clock(1, 2, 4, 1, 120), 30);
        NobodyFirst y = Due.flat(40);
        y.rider(0, 0, 40, 900);
        y.rider(0, 0, 40, 900);
        Due.is("all forty", y.clock(1, 2, 39, 0, 101), (1L << 40) - 1);
    }

    private static void refusesClock() {
        NobodyFirst x = riders(2);
        int[] rules = {0, 1, 100, 121, 99, 10001, -101, 9921, Integer.MAX_VALUE, Integer.MIN_VALUE};
        for (int rule : rules) {
            Due.is("clock, rule " + rule, x.clock(1, 2, 3, 0, rule), NobodyFirst.NO);
        }
        int[][] bad = {{0, 2, 0, 0}, {1, 0, 0, 0}, {1, 3, 0, 0}, {1, 4, 0, 0}, {4, 1, 0, 0}, {1, 2, 4, 0},
            {1, 2, 100, 0}, {1, 2, -1, 0}, {1, 2, 0, -1}, {1, 2, 0, 10000}};
        for (int[] b : bad) {
            Due.is("clock, bad", x.clock(b[0], b[1], b[2], b[3], 101), NobodyFirst.NO);
        }
    }

    private static void imageAndBack() {
        NobodyFirst x = riders(2);
        Due.is("back, none", x.back(), NobodyFirst.STATE);
        x.film(0, 1, 1);
        Due.is("image", x.image(), 2);
        Due.text(x, "spend 1;fill 0;pace 1;");
        x.force(1);
        x.set(0, 0, 77);
        x.set(1, 1, 1);
        x.film(0, 1, 0);
        x.film(1, 2, 1);
        x.tenth(0, 0, 20);
        x.film(1, 4, 1);
        Due.is("back", x.back(), 2);
        Due.is("power", x.told(0, 0, 2), 40);
        Due.is("store", x.told(1, 0, 3), 500);
        Due.is("the rule", x.count(4), 0);
        Due.is("texts stay", x.count(2), 2);
        Due.is("tenths stay", x.count(0), 5);
        Due.is("filmed", x.count(5), 1);
        Due.is("filmed as it was", x.film(0, 1, 1), 1);
        x.set(0, 0, 5);
        Due.is("back again", x.back(), 2);
        Due.is("power again", x.told(0, 0, 2), 40);
        x.set(0, 0, 6);
        x.image();
        x.set(0, 0, 7);
        x.back();
        Due.is("the newer image", x.told(0, 0, 2), 6);
        NobodyFirst y = new NobodyFirst();
        Due.is("an empty image", y.image(), 0);
        Due.is("back to it", y.back(), 0);
    }

    private static void backLeavesNewRiders() {
        NobodyFirst x = riders(1);
        x.image();
        x.rider(1, 0, 50, 600);
        x.set(1, 0, 51);
        x.set(1, 1, 601);
        x.film(1, 0, 1);
        x.set(0, 1, 3);
        Due.is("back with a new one", x.back(), 2);
        Due.is("its power", x.told(1, 0, 2), 51);
        Due.is("its store", x.told(1, 0, 3), 601);
        Due.is("filmed still", x.film(1, 0, 1), 1);
        Due.is("the old one's store", x.told(0, 0, 3), 500);
    }

    private static void count() {
        NobodyFirst x = riders(3);
        Due.text(x, "spend 1;fill 0;pace 1;");
        x.force(1);
        x.feed(5, 0);
        x.film(0, 0, 1);
        x.film(0, 1, 1);
        x.film(2, 1, 1);
        int[] want = {4, 3, 2, 5, 1, 3, 1500};
        for (int what = 0; what < want.length; what++) {
            Due.is("count " + what, x.count(what), want[what]);
        }
        Due.is("count 7", x.count(7), NobodyFirst.BAD);
        Due.is("count -1", x.count(-1), NobodyFirst.BAD);
    }
}
