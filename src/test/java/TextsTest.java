/** Promises 7 to 10: feed, text, force, says. */
public final class TextsTest {
    public static void main(String[] args) {
        feed();
        text();
        faults();
        openOnes();
        force();
        saysFirstRule();
        saysValues();
        saysBounds();
        saysRefuses();
        Due.end();
    }

    private static void feed() {
        NobodyFirst x = new NobodyFirst();
        Due.is("feed 0", x.feed(0, 1), NobodyFirst.BAD);
        Due.is("feed 9", x.feed(9, 1), NobodyFirst.BAD);
        Due.is("feed -1", x.feed(-1, 1), NobodyFirst.BAD);
        Due.is("feed 1", x.feed(1, -1L), 1);
        Due.is("feed 7", x.feed(7, 0), 8);
        for (int i = 2; i < 20; i++) {
            Due.is("feed 8", x.feed(8, 0), 8 * i);
        }
        Due.is("feed 3", x.feed(3, 0), 155);
        Due.is("feed 6, full", x.feed(6, 0), NobodyFirst.FULL);
        Due.is("feed 9, full", x.feed(9, 0), NobodyFirst.BAD);
        Due.is("feed 5", x.feed(5, 0), 160);
        Due.is("feed 1, full", x.feed(1, 0), NobodyFirst.FULL);
        Due.is("bytes", x.count(3), 160);
        // The lowest byte comes first: a blank, then what begins no token.
        NobodyFirst y = new NobodyFirst();
        y.feed(2, 0xff20L);
        Due.is("text: the byte behind the blank", y.text(), -101);
    }

    private static void text() {
        NobodyFirst x = new NobodyFirst();
        Due.is("text", Due.text(x, "spend 1;fill 2;pace 3;"), 1);
        Due.is("the tape behind a text", x.count(3), 0);
        Due.is("text with faults", Due.text(x, "spend 1;fill 2;pace;"), -119);
        Due.is("the tape behind a fault", x.count(3), 0);
        Due.is("texts", x.count(2), 2);
        Due.is("no blanks", Due.text(x, "spend1;fill2;pace3;"), 2);
        Due.is("blanks", Due.text(x, " \n spend\n1 ; fill(2) ;pace\n\n3 ;\n "), 3);
        Due.is("160 bytes", Due.text(x, "spend 1;fill 2;pace 3" + " ".repeat(138) + ";"), 4);
        Due.is("the last", Due.text(x, "spend 0;fill 0;pace 0;"), 5);
        Due.feed(x, "spend ?");
        Due.is("full, ahead of a fault", x.text(), NobodyFirst.FULL);
        Due.is("the tape stays", x.count(3), 7);
        Due.is("texts at the end", x.count(2), 6);
        Due.is("the rule still", x.count(4), 0);
    }

    private static void fault(String signs, int place) {
        NobodyFirst x = new NobodyFirst();
        Due.is("fault of \"" + signs + "\"", Due.text(x, signs), -100 - place);
        Due.is("texts behind \"" + signs + "\"", x.count(2), 1);
        Due.is("the tape behind \"" + signs + "\"", x.count(3), 0);
    }

    private static void faults() {
        fault("", 0);
        fault("  \n", 3);
        fault("spend", 5);
        fault("spend ", 6);
        fault("fill 1;", 0);
        fault("spend 1;pace 1;", 8);
        fault("spend 1;fill 1;pace 1", 21);
        fault("spend 1;fill 1;pace 1 ", 22);
        fault("spend 1;fill 1;pace 1;;", 22);
        fault("spend 1;fill 1;pace 1; 1", 23);
        fault("spend 1;fill 1;pace 1;A", 22);
        fault("spend ;", 6);
        fault("spend spend;", 6);
        fault("spend powers;", 6);
        fault("spend powe;", 6);
        fault("spend Power;", 6);
        fault("spend 12345;", 6);
        fault("spend 00001;", 6);
        fault("spend 1 2;", 8);
        fault("spend 1power;", 7);
        fault("spend 1 + ;", 10);
        fault("spend + 1;", 6);
        fault("spend 1 + not 1;", 10);
        fault("spend 1 < not 1;", 10);
        fault("spend - not 1;", 8);
        fault("spend 1 < 2 < 3;", 12);
        fault("spend 1 = 2 < 3;", 12);
        fault("spend 1 > 2;", 8);
        fault("spend (1;", 8);
        fault("spend (1", 8);
        fault("spend 1);", 7);
        fault("spend ();", 7);
        fault("spend 1 and;", 11);
        fault("spend or 1;", 6);
        fault("spend 1 or or 1;", 11);
        fault("spend 1 not 2;", 8);
        fault("spend 1 ; fill ? ; ?", 15);
        fault("spend 1\t;", 7);
        fault("spend 1;fill 12345;pace", 13);
        fault("spend 1 ? 12345", 8);
        fault("spendfill 1;", 0);
        fault("xpend 1;", 0);
        fault("spend powerz;", 6);
        fault("spend apower;", 6);
        // Bytes that are no signs, whatever a reader may call its tokens inside.
        for (char c = 0; c < 10; c++) {
            fault("spend " + c + ";", 6);
            fault("spend 1;fill 1;pace 1;" + c, 22);
        }
        for (char c = 127; c < 256; c++) {
            fault(c + "1;", 0);
            fault("spend " + c + ";", 6);
        }
        fault("spend 1" + (char) 160 + ";", 7);
        fault("spend " + (char) 200, 6);
    }

    private static void openOnes() {
        NobodyFirst x = new NobodyFirst();
        Due.is("five (", Due.text(x, "spend (((((1)))));fill 1;pace 1;"), 1);
        Due.is("five - again and again", Due.text(x, "spend -----1------1*-----1;fill 1;pace 1;"), 2);
        Due.is("five not", Due.text(x, "spend not not not not not 1 and not not not not not 1;fill 1;pace 1;"), 3);
        Due.is("five mixed", Due.text(x, "spend not(-(-1))-(-(-1));fill 1;pace 1;"), 4);
        fault("spend ((((((1))))));", 11);
        fault("spend ------1;", 11);
        fault("spend not not not not not not 1;", 26);
        fault("spend not(-(-(1)));", 13);
    }

    private static void force() {
        NobodyFirst x = Due.flat(1);
        x.rider(0, 0, 40, 500);
        Due.text(x, "spend 7;fill 2;pace 3;");
        Due.is("force 2", x.force(2), NobodyFirst.BAD);
        Due.is("force -1", x.force(-1), NobodyFirst.BAD);
        Due.is("force 1", x.force(1), 0);
        Due.is("the rule", x.count(4), 1);
        Due.is("spend by it", x.says(0, 0, 0, 0), 7);
        Due.is("force 1 again", x.force(1), 1);
        Due.is("force 0", x.force(0), 1);
        Due.is("spend by the first", x.says(0, 0, 0, 0), 12);
    }

    private static void saysFirstRule() {
        NobodyFirst x = new NobodyFirst();
        x.tenth(4, 3, 2 * 3 + 1);
        x.tenth(-9, 0, 2 * 3);
        x.rider(0, 0, 40, 500);
        int[] spends = {19, 15, 11, 19};
        int[] fills = {0, 1, 2, 0};
        for (int place = 0; place < 4; place++) {
            Due.is("spend at " + place, x.says(0, 0, place, 0), spends[place]);
            Due.is("fill at " + place, x.says(0, 0, place, 1), fills[place]);
            Due.is("pace at " + place, x.says(0, 0, place, 2), 33);
        }
        Due.is("spend, not below 0", x.says(0, 1, 1, 0), 0);
        Due.is("fill at 11, no side wind", x.says(0, 1, 11, 1), 11);
        Due.is("pace downhill", x.says(0, 1, 0, 2), 49);
    }

    /** What an E comes to, with 50 added where it may be below 0. */
    private static void value(String e, int want) {
        NobodyFirst x = new NobodyFirst();
        x.tenth(0, 0, 20);
        x.tenth(-2, 3, 20);
        x.tenth(0, 0, 20);
        x.rider(0, 0, 40, 7);
        Due.is("text of " + e, Due.text(x, "spend 50 + (" + e + ");fill 0;pace 1;"), 1);
        x.force(1);
        Due.is(e, x.says(0, 1, 5, 0), 50 + want);
    }

    private static void saysValues() {
        value("power", 40);
        value("place", 5);
        value("slope", -2);
        value("wind", 3);
        value("store", 7);
        value("left", 2);
        value("1 + 2 * 3", 7);
        value("(1 + 2) * 3", 9);
        value("10 - 2 - 3", 5);
        value("10 - (2 - 3)", 11);
        value("-2 * -3", 6);
        value("- -5", 5);
        value("4 - -5", 9);
        value("1 < 2", 1);
        value("2 < 2", 0);
        value("2 = 2", 1);
        value("2 = 3", 0);
        value("not 0", 1);
        value("not 7", 0);
        value("not not 7", 1);
        value("not 1 = 2", 1);
        value("5 and 7", 1);
        value("5 and 0", 0);
        value("0 or 9", 1);
        value("0 or 0", 0);
        value("1 or 1 and 0", 1);
        value("(1 or 1) and 0", 0);
        value("not 0 and 0", 0);
        value("1 + 1 < 3", 1);
        value("3 < 1 + 1", 0);
        value("0 or 1 and 2 < 3 + 1 * (0 or 1 and 2 < 3 + 4 * 5)", 1);
        value("9999", 49);
        value("0012", 12);
        // 65536 * 32768 is 2^31, which wraps to the least int.
        value("(8192*8*8192*4<0)*7", 7);
        value("(8192*8*8192*8)*7", 0);
        value("(-(8192*8*8192*4)<0)*7", 7);
    }

    private static void saysBounds() {
        NobodyFirst x = Due.flat(1);
        x.rider(0, 0, 40, 500);
        Due.text(x, "spend -1;fill -1;pace -1;");
        Due.text(x, "spend 100;fill 100;pace 100;");
        x.force(1);
        Due.is("spend, least", x.says(0, 0, 0, 0), 0);
        Due.is("fill, least", x.says(0, 0, 0, 1), 0);
        Due.is("pace, least", x.says(0, 0, 0, 2), 1);
        x.force(2);
        for (int key = 0; key < 3; key++) {
            Due.is("most of " + key, x.says(0, 0, 0, key), 99);
        }
    }

    private static void saysRefuses() {
        NobodyFirst x = Due.flat(2);
        x.rider(0, 0, 40, 500);
        int[][] bad = {{1, 0, 0, 0}, {-1, 0, 0, 0}, {0, 2, 0, 0}, {0, -1, 0, 0}, {0, 0, 12, 0}, {0, 0, -1, 0},
            {0, 0, 0, 3}, {0, 0, 0, -1}};
        for (int[] b : bad) {
            Due.is("says, bad", x.says(b[0], b[1], b[2], b[3]), NobodyFirst.BAD);
        }
    }
}
