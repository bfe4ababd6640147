/** Promises 1 to 6: a new object, tenth, rider, set, told, house. */
public final class RoadTest {
    public static void main(String[] args) {
        constants();
        newObject();
        tenth();
        rider();
        set();
        toldFields();
        works();
        stays();
        ends();
        toldRefuses();
        house();
        Due.end();
    }

    private static void constants() {
        Due.is("NONE", NobodyFirst.NONE, -1);
        Due.is("BAD", NobodyFirst.BAD, -2);
        Due.is("STATE", NobodyFirst.STATE, -3);
        Due.is("FULL", NobodyFirst.FULL, -4);
        Due.is("NO", NobodyFirst.NO, -(1L << 62));
    }

    private static void newObject() {
        NobodyFirst x = new NobodyFirst();
        for (int what = 0; what <= 6; what++) {
            Due.is("new: count " + what, x.count(what), what == 2 ? 1 : 0);
        }
        Due.is("new: house", x.house(0), 0);
        Due.is("new: ride", x.ride(1, 0, 0), NobodyFirst.BAD);
        Due.is("new: back", x.back(), NobodyFirst.STATE);
        Due.is("new: cell", x.cell(3, 0, 0), -11);
    }

    private static void tenth() {
        NobodyFirst x = new NobodyFirst();
        int[][] bad = {{-10, 0, 2}, {10, 0, 2}, {0, -1, 2}, {0, 10, 2}, {0, 0, 1}, {0, 0, 42}, {0, 0, -1},
            {Integer.MIN_VALUE, 0, 2}, {0, Integer.MAX_VALUE, 2}, {0, 0, Integer.MIN_VALUE}};
        for (int[] b : bad) {
            Due.is("tenth, bad", x.tenth(b[0], b[1], b[2]), NobodyFirst.BAD);
        }
        Due.is("tenths after refusals", x.count(0), 0);
        Due.is("tenth, least", x.tenth(-9, 0, 2), 0);
        Due.is("tenth, most", x.tenth(9, 9, 41), 1);
        for (int i = 2; i < 40; i++) {
            Due.is("tenth " + i, x.tenth(0, 0, 3), i);
        }
        Due.is("tenth 40", x.tenth(0, 0, 3), NobodyFirst.FULL);
        Due.is("tenth 40, bad", x.tenth(10, 0, 3), NobodyFirst.BAD);
        Due.is("tenths", x.count(0), 40);
        x.rider(0, 0, 50, 100);
        Due.is("slope -9 costs", x.says(0, 0, 0, 0), 3);
        Due.is("slope 9, wind 9 cost", x.says(0, 1, 0, 0), 30);
        Due.is("WIDE 1, SIDE 1", x.says(0, 2, 1, 1), 0);
        Due.is("WIDE 20, SIDE 1", x.says(0, 1, 11, 1), 11);
    }

    private static void rider() {
        NobodyFirst x = new NobodyFirst();
        int[][] bad = {{-1, 0, 1, 0}, {6, 0, 1, 0}, {0, -1, 1, 0}, {0, 40, 1, 0}, {0, 0, 0, 0}, {0, 0, 100, 0},
            {0, 0, 1, -1}, {0, 0, 1, 1000}, {Integer.MIN_VALUE, 0, 1, 0}, {0, Integer.MAX_VALUE, 1, 0}};
        for (int[] b : bad) {
            Due.is("rider, bad", x.rider(b[0], b[1], b[2], b[3]), NobodyFirst.BAD);
        }
        Due.is("riders after refusals", x.count(1), 0);
        Due.is("rider, least", x.rider(0, 0, 1, 0), 0);
        Due.is("rider, most", x.rider(5, 39, 99, 999), 1);
        for (int i = 2; i < 12; i++) {
            Due.is("rider " + i, x.rider(2, 10, 50, 100), i);
        }
        Due.is("rider 12", x.rider(2, 10, 50, 100), NobodyFirst.FULL);
        Due.is("rider 12, bad", x.rider(6, 10, 50, 100), NobodyFirst.BAD);
        Due.is("riders", x.count(1), 12);
    }

    private static void set() {
        NobodyFirst x = new NobodyFirst();
        x.rider(0, 0, 40, 500);
        Due.is("set power", x.set(0, 0, 99), 40);
        Due.is("set power again", x.set(0, 0, 1), 99);
        Due.is("set store", x.set(0, 1, 999), 500);
        Due.is("set store again", x.set(0, 1, 0), 999);
        int[][] bad = {{1, 0, 5}, {-1, 0, 5}, {0, 2, 5}, {0, -1, 5}, {0, 0, 0}, {0, 0, 100}, {0, 1, -1}, {0, 1, 1000}};
        for (int[] b : bad) {
            Due.is("set, bad", x.set(b[0], b[1], b[2]), NobodyFirst.BAD);
        }
        Due.is("power", x.told(0, 0, 2), 1);
        Due.is("store", x.told(0, 0, 3), 0);
    }

    private static void toldFields() {
        NobodyFirst x = new NobodyFirst();
        x.rider(4, 37, 61, 234);
        int[] want = {4, 3, 61, 234, 7};
        for (int what = 0; what < want.length; what++) {
            Due.is("told " + what, x.told(0, 0, what), want[what]);
        }
    }

    private static void worksOf(int kind, int store, int left, int want) {
        NobodyFirst x = new NobodyFirst();
        x.rider(kind, 5, 50, store);
        Due.is("works: kind " + kind + " store " + store + " left " + left, x.told(0, left, 5), want);
    }

    private static void works() {
        worksOf(0, 100, 3, 0);
        worksOf(0, 101, 3, 1);
        worksOf(1, 20, 3, 0);
        worksOf(1, 21, 40, 1);
        worksOf(2, 101, 5, 1);
        worksOf(2, 101, 6, 0);
        worksOf(2, 100, 5, 0);
        worksOf(3, 999, 0, 0);
        worksOf(4, 101, 6, 1);
        worksOf(4, 101, 5, 0);
        worksOf(4, 100, 6, 0);
        worksOf(5, 21, 40, 1);
        worksOf(5, 20, 6, 0);
        worksOf(5, 20, 5, 1);
        worksOf(5, 1, 5, 1);
        worksOf(5, 0, 5, 0);
    }

    private static void stays() {
        int[][] want = {{1, 1, 1}, {1, 2, 4}, {1, 1, 1}, {1, 1, 1}, {1, 1, 1}, {2, 4, 8}};
        int[] numbers = {2, 3, 9};
        for (int kind = 0; kind < 6; kind++) {
            for (int i = 0; i < 3; i++) {
                NobodyFirst x = new NobodyFirst();
                x.rider(kind, numbers[i], 50, 0);
                Due.is("stays: kind " + kind + " number " + numbers[i], x.told(0, 0, 6), want[kind][i]);
            }
        }
    }

    private static void ends() {
        int[] want = {50, 43, 57, 58, 71, 43};
        int[] weak = {3, 0, 10, 11, 24, 0};
        for (int kind = 0; kind < 6; kind++) {
            NobodyFirst x = new NobodyFirst();
            x.rider(kind, 7, 50, 0);
            Due.is("ends: kind " + kind, x.told(0, 0, 7), want[kind]);
            x.set(0, 0, 3);
            Due.is("ends, weak: kind " + kind, x.told(0, 0, 7), weak[kind]);
        }
    }

    private static void toldRefuses() {
        NobodyFirst x = new NobodyFirst();
        x.rider(0, 0, 40, 500);
        int[][] bad = {{1, 0, 0}, {-1, 0, 0}, {0, -1, 0}, {0, 41, 0}, {0, 0, -1}, {0, 0, 8}};
        for (int[] b : bad) {
            Due.is("told, bad", x.told(b[0], b[1], b[2]), NobodyFirst.BAD);
        }
        Due.is("told, 40 left", x.told(0, 40, 0), 0);
    }

    private static void house() {
        NobodyFirst x = new NobodyFirst();
        int[] houses = {30, 9, 19, 39, 0};
        for (int h : houses) {
            x.rider(0, h, 1, 0);
        }
        Due.is("house 0", x.house(0), 18);
        Due.is("house 1", x.house(1), 4);
        Due.is("house 2", x.house(2), 0);
        Due.is("house 3", x.house(3), 9);
        Due.is("house 4", x.house(4), NobodyFirst.BAD);
        Due.is("house -1", x.house(-1), NobodyFirst.BAD);
    }
}
