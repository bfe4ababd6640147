/** Promises 11 to 16: ride, spent, ridden, caught, worth, turns. */
public final class RidesTest {
    public static void main(String[] args) {
        turnsOnTheFlat();
        nobodyWorks();
        leftIsTheRoads();
        sinceCountsSitting();
        sinceCountsSittingForLong();
        onlyOneWorks();
        fallsBack();
        frontFallsBack();
        storesAsTheTenthBegins();
        sideWind();
        refusesRides();
        ridden();
        caught();
        refusesCaught();
        worth();
        turns();
        Due.end();
    }

    /** By the first rule on the flat the places 0, 1, 2, 3 cost 12, 7, 2, -3, with what they gain. */
    private static NobodyFirst three() {
        NobodyFirst x = Due.flat(6);
        x.rider(0, 0, 40, 500);
        x.rider(1, 6, 30, 500);
        x.rider(3, 0, 50, 500);
        return x;
    }

    private static void turnsOnTheFlat() {
        NobodyFirst x = three();
        int[] fronts = {0, 1, 1, 1, 0, 1};
        int[] far = {40, 70, 100, 130, 170, 200};
        for (int t = 0; t < 6; t++) {
            Due.is("front in " + t, x.ride(7, t, 2), fronts[t]);
            Due.is("far behind " + t, x.ride(7, t, 0), far[t]);
            Due.is("left behind " + t, x.ride(7, t, 1), 7);
        }
        Due.is("spent by 0", x.spent(7, 5, 0), 32);
        Due.is("spent by 1", x.spent(7, 5, 1), 62);
        Due.is("spent by 2", x.spent(7, 5, 2), 32);
        Due.is("from 2 to 3", x.ride(7, 203, 0), 70);
        Due.is("from 3 to 3", x.ride(7, 303, 2), 0);
        Due.is("the stores", x.count(6), 1500);
        Due.is("spent by one behind three others", spentBehind(), -3);
    }

    private static long spentBehind() {
        NobodyFirst x = Due.flat(1);
        for (int i = 0; i < 4; i++) {
            x.rider(0, 0, 40, 500);
        }
        return x.spent(15, 0, 3);
    }

    private static void nobodyWorks() {
        NobodyFirst x = Due.flat(4);
        x.rider(3, 0, 50, 900);
        x.rider(3, 0, 60, 900);
        Due.is("refusers: the first stays at the front", x.ride(3, 3, 2), 0);
        Due.is("refusers: far", x.ride(3, 3, 0), 200);
        Due.is("refusers: spent", x.spent(3, 3, 0), 48);
    }

    /** A sitter with NUMBER 2 works in the last two tenths of the road, not of the ride. */
    private static void leftIsTheRoads() {
        NobodyFirst x = Due.flat(6);
        x.rider(2, 2, 50, 900);
        x.rider(0, 0, 40, 900);
        Due.is("front in 0", x.ride(3, 0, 2), 1);
        Due.is("front in 3 from 2 on", x.ride(3, 203, 2), 1);
        Due.is("front in 4 from 4 on", x.ride(3, 404, 2), 0);
        Due.is("front in 5 from 4 on", x.ride(3, 405, 2), 1);
        Due.is("left in a text", Due.text(x, "spend left;fill 0;pace left*10;"), 1);
        x.force(1);
        Due.is("far from 1 to 2", x.ride(3, 102, 0), 90);
        Due.is("spent from 1 to 2", x.spent(3, 102, 0), 9);
    }

    /** Tenths at the front count for a sitter while it does not work, too. */
    private static void sinceCountsSitting() {
        NobodyFirst x = Due.flat(4);
        x.rider(2, 2, 50, 900);
        x.rider(2, 1, 60, 900);
        x.rider(2, 2, 70, 900);
        int[] fronts = {0, 0, 2, 0};
        for (int t = 0; t < 4; t++) {
            Due.is("sitters: front in " + t, x.ride(7, t, 2), fronts[t]);
        }
    }

    /** Closers with a low store work in the last tenths only; four at the front are enough for one. */
    private static void sinceCountsSittingForLong() {
        NobodyFirst x = Due.flat(10);
        x.rider(5, 3, 50, 20);
        x.rider(5, 3, 60, 20);
        Due.text(x, "spend 0;fill 0;pace 50+place*9;");
        x.force(1);
        Due.is("closers: front in 6", x.ride(3, 6, 2), 0);
        Due.is("closers: front in 7", x.ride(3, 7, 2), 1);
        Due.is("closers: front in 9", x.ride(3, 9, 2), 1);
        Due.is("closers, from 6 on: front in 9", x.ride(3, 609, 2), 0);
        Due.is("closers, from 5 on: front in 9", x.ride(3, 509, 2), 1);
        Due.is("the pace is that of place 0", x.ride(3, 9, 0), 500);
    }

    /** Who comes round to the front again in the same tenth begins anew. */
    private static void onlyOneWorks() {
        NobodyFirst x = Due.flat(5);
        x.rider(1, 3, 30, 900);
        x.rider(2, 2, 50, 900);
        int[] fronts = {0, 0, 0, 0, 1};
        for (int t = 0; t < 5; t++) {
            Due.is("one works: front in " + t, x.ride(3, t, 2), fronts[t]);
        }
        NobodyFirst y = Due.flat(5);
        y.rider(1, 3, 30, 900);
        y.rider(2, 1, 50, 900);
        // The puller turns in tenths 2 and 4, where only the last one has the sitter at work.
        Due.is("one works: front in 3", y.ride(3, 3, 2), 0);
        Due.is("one works: front in 4", y.ride(3, 4, 2), 1);
    }

    private static void fallsBack() {
        NobodyFirst x = Due.flat(3);
        x.rider(0, 0, 40, 900);
        x.rider(3, 0, 50, 14);
        x.rider(3, 0, 60, 7);
        Due.is("left behind 0", x.ride(7, 0, 1), 7);
        Due.is("left behind 1", x.ride(7, 1, 1), 5);
        Due.is("left behind 2", x.ride(7, 2, 1), 1);
        Due.is("spent by who fell back", x.spent(7, 2, 1), 14);
        Due.is("spent by who fell back later", x.spent(7, 2, 2), 7);
        Due.is("spent by who is left", x.spent(7, 2, 0), 36);
        NobodyFirst y = Due.flat(3);
        y.rider(0, 0, 40, 12);
        Due.is("nobody left: far", y.ride(1, 2, 0), 42);
        Due.is("nobody left: left", y.ride(1, 2, 1), 0);
        Due.is("nobody left: the last front", y.ride(1, 0, 2), 0);
        Due.is("nobody left: front", y.ride(1, 1, 2), NobodyFirst.NONE);
        y.set(0, 1, 0);
        Due.is("no store: far", y.ride(1, 0, 0), 40);
        Due.is("no store: left", y.ride(1, 0, 1), 0);
    }

    /** The one behind a front that fell back has been there for no tenth. */
    private static void frontFallsBack() {
        NobodyFirst x = Due.flat(4);
        x.rider(3, 0, 40, 24);
        x.rider(2, 2, 50, 900);
        x.rider(2, 2, 60, 900);
        int[] fronts = {0, 0, 1, 2};
        for (int t = 0; t < 4; t++) {
            Due.is("front fell back: front in " + t, x.ride(7, t, 2), fronts[t]);
        }
    }

    private static void storesAsTheTenthBegins() {
        NobodyFirst x = Due.flat(2);
        x.rider(0, 0, 40, 990);
        x.rider(0, 0, 40, 3);
        Due.text(x, "spend store=3;fill 5+(store=3)*2;pace store;");
        x.force(1);
        Due.is("fill up to 999", x.spent(3, 1, 0), -9);
        Due.is("spend and fill by the same store", x.spent(3, 0, 1), -6);
        Due.is("pace by the store as it begins", x.ride(2, 1, 0), 12);
        Due.is("both ride on", x.ride(3, 1, 1), 3);
        NobodyFirst y = Due.flat(1);
        y.rider(0, 0, 40, 5);
        Due.text(y, "spend 20;fill 16;pace 1;");
        y.force(1);
        Due.is("spend above the store, but not above store and fill", y.ride(1, 0, 1), 1);
        y.set(0, 1, 4);
        Due.is("spend as much as store and fill", y.ride(1, 0, 1), 0);
    }

    private static void sideWind() {
        NobodyFirst x = new NobodyFirst();
        x.tenth(1, 2, 5);
        for (int i = 0; i < 4; i++) {
            x.rider(3, 0, 50, 500);
        }
        int[] spent = {15, 10, 15, 15};
        for (int r = 0; r < 4; r++) {
            Due.is("side wind: spent by " + r, x.spent(15, 0, r), spent[r]);
        }
        Due.is("slope and wind: far", x.ride(15, 0, 0), 47);
    }

    private static void refusesRides() {
        NobodyFirst x = three();
        int[][] bad = {{0, 0}, {8, 0}, {-1, 0}, {Integer.MIN_VALUE, 0}, {1, 6}, {1, -1}, {1, 100}, {1, 606},
            {1, 1000000}, {1, Integer.MAX_VALUE}, {1, Integer.MIN_VALUE}, {1, -100}};
        for (int[] b : bad) {
            Due.is("ride, bad " + b[0] + " " + b[1], x.ride(b[0], b[1], 0), NobodyFirst.BAD);
            Due.is("spent, bad " + b[0] + " " + b[1], x.spent(b[0], b[1], 0), NobodyFirst.NO);
            Due.is("ridden, bad " + b[0] + " " + b[1], x.ridden(b[0], b[1]), NobodyFirst.BAD);
        }
        Due.is("ride 3", x.ride(1, 0, 3), NobodyFirst.BAD);
        Due.is("ride -1", x.ride(1, 0, -1), NobodyFirst.BAD);
        int[] none = {1, 3, -1, 32, Integer.MIN_VALUE};
        for (int r : none) {
            Due.is("spent by " + r, x.spent(5, 0, r), NobodyFirst.NO);
        }
        Due.is("stores", x.count(6), 1500);
    }

    private static void ridden() {
        NobodyFirst x = three();
        x.set(2, 1, 2);
        Due.is("ridden", x.ridden(7, 0), 3);
        Due.is("store of 0", x.told(0, 0, 3), 488);
        Due.is("store of 1", x.told(1, 0, 3), 493);
        Due.is("store of 2", x.told(2, 0, 3), 0);
        Due.is("ridden by one", x.ridden(2, 1), 2);
        Due.is("store of 0 still", x.told(0, 0, 3), 488);
        Due.is("store of 1 then", x.told(1, 0, 3), 469);
    }

    private static void caught() {
        NobodyFirst x = Due.flat(4);
        x.rider(0, 0, 40, 900);
        x.rider(0, 0, 50, 900);
        x.rider(0, 0, 60, 24);
        Due.is("caught at 0 exactly", x.caught(1, 2, 3, 20, 0), 1);
        Due.is("caught, 1 more", x.caught(1, 2, 3, 21, 0), 2);
        Due.is("caught, from 2 on", x.caught(1, 2, 203, 20, 0), 3);
        Due.is("not caught", x.caught(1, 2, 3, 41, 0), NobodyFirst.NONE);
        Due.is("gap then", x.caught(1, 2, 3, 41, 1), 1);
        Due.is("gap goes below 0", x.caught(1, 2, 3, 0, 1), -40);
        Due.is("gap, most", x.caught(2, 1, 3, 9999, 1), 10039);
        // Two tenths at 60, then nobody is left: pace 1.
        Due.is("who fell back is caught", x.caught(4, 1, 3, 0, 0), 3);
        Due.is("gap behind who fell back", x.caught(4, 1, 3, 0, 1), -38);
        Due.is("two behind", x.caught(1, 6, 3, 15, 0), 1);
        Due.is("stores", x.count(6), 1824);
    }

    private static void refusesCaught() {
        NobodyFirst x = three();
        int[][] bad = {{0, 2, 0, 0, 0}, {1, 0, 0, 0, 0}, {1, 3, 0, 0, 0}, {8, 1, 0, 0, 0}, {1, 8, 0, 0, 0},
            {1, -2, 0, 0, 0}, {1, 2, 6, 0, 0}, {1, 2, 100, 0, 0}, {1, 2, -1, 0, 0}, {1, 2, 0, -1, 0},
            {1, 2, 0, 10000, 0}, {1, 2, 0, 0, 2}, {1, 2, 0, 0, -1}};
        for (int[] b : bad) {
            Due.is("caught, bad", x.caught(b[0], b[1], b[2], b[3], b[4]), NobodyFirst.NO);
        }
    }

    private static void worth() {
        NobodyFirst x = new NobodyFirst();
        x.tenth(0, 0, 20);
        x.tenth(-9, 0, 20);
        x.tenth(0, 0, 5);
        x.rider(0, 0, 40, 500);
        Due.is("worth of the front", x.worth(0, 0, 0), 0);
        Due.is("worth of 1", x.worth(0, 0, 1), 5);
        Due.is("worth of 4", x.worth(0, 0, 4), 16);
        Due.is("worth of 1 downhill, spend not below 0", x.worth(0, 1, 1), 4);
        Due.is("worth without room", x.worth(0, 2, 2), 0);
        Due.is("worth below 0", worthOfWorse(x), -20);
        int[][] bad = {{1, 0, 0}, {-1, 0, 0}, {0, 3, 0}, {0, -1, 0}, {0, 0, 12}, {0, 0, -1}};
        for (int[] b : bad) {
            Due.is("worth, bad", x.worth(b[0], b[1], b[2]), NobodyFirst.NO);
        }
    }

    private static long worthOfWorse(NobodyFirst x) {
        Due.text(x, "spend place*10;fill 0;pace 1;");
        x.force(1);
        return x.worth(0, 0, 2);
    }

    private static void turns() {
        NobodyFirst x = new NobodyFirst();
        x.tenth(0, 0, 20);
        x.tenth(0, 0, 5);
        x.rider(0, 0, 40, 500);
        x.rider(0, 0, 30, 500);
        x.rider(0, 0, 30, 500);
        x.rider(0, 0, 50, 500);
        Due.is("of like ones the least", x.turns(14, 0, 0), 1);
        Due.is("what it is", x.turns(14, 0, 1), 21);
        Due.is("without room", x.turns(14, 1, 1), 31);
        Due.text(x, "spend (place=0)*power+(place=1)*(power=40)*10;fill place;pace 1;");
        x.force(1);
        // Front 0: 40; 1: 30 and 10 for 0 behind it; 2: the same; 3: 50 and 10; less 6 gained.
        Due.is("least loss of all", x.turns(15, 0, 0), 0);
        Due.is("what least loss is", x.turns(15, 0, 1), 34);
        Due.is("of 1, 2, 3", x.turns(14, 0, 0), 1);
        Due.is("of 3 alone", x.turns(8, 0, 1), 50);
        int[][] bad = {{0, 0, 0}, {16, 0, 0}, {-1, 0, 0}, {1, 2, 0}, {1, -1, 0}, {1, 0, 2}, {1, 0, -1}};
        for (int[] b : bad) {
            Due.is("turns, bad", x.turns(b[0], b[1], b[2]), NobodyFirst.NO);
        }
    }
}
