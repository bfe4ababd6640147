/** The document's sentences on the tape, tokens and texts, promises 7 to 10 with them. */
final class TextEdges extends Edges {
    private static final String REST = ";fill 0;pace 1;";

    private TextEdges() { }

    static void all() {
        tape();
        tokens();
        signsAndBlanks();
        text();
        eAndAnd();
        not();
        sums();
        ones();
        words();
        wrapping();
        truth();
        faultPlaces();
        opened();
        closed();
        texts();
        names();
        spendFillPace();
        theRule();
        feedPromise();
        textPromise();
        forcePromise();
        saysPromise();
    }

    // ---- tokens

    private static void tape() {
        Sentence.of("A TEXT is read from THE TAPE (160 bytes at most).", s -> {
            String text = "spend 1;fill 2;pace 3";
            s.tape(text + " ".repeat(138)).is(160, "feed", 1, ';').no(FULL, "feed", 1, ' ').is(1, "text");
            s.again().tape(text + " ".repeat(139)).no(FULL, "feed", 1, ';').is(-100 - 160, "text");
            s.again().is(-100, "text").is(0, "count", 3);
        });
    }

    private static void tokens() {
        Sentence.of("TOKENS, each as long as can be:", s -> {
            s.text(1, "spend1" + REST).fault(0, "spendfill 1;");
            s.fault(6, "spend powerplace" + REST).fault(8, "spend 12power" + REST).fault(9, "spend 12 345" + REST);
            s.fault(6, "spend notnot 1" + REST);
        });
        Sentence.of("WORDS (a .. z),", s -> {
            s.fault(6, "spend a" + REST).fault(6, "spend z" + REST).fault(6, "spend `" + REST);
            s.fault(6, "spend {" + REST);
            s.fault(11, "spend power`" + REST).fault(11, "spend power{" + REST).fault(6, "spend Power" + REST);
            s.fault(6, "spend powera" + REST).fault(6, "spend powerz" + REST).fault(6, "spend powEr" + REST);
            s.fault(0, "Spend 1" + REST).fault(6, "spend _" + REST);
        });
        Sentence.of("NUMBERS (as many digits as stand there, 4 at most),", s -> {
            String[] good = {"0", "9", "10", "100", "1000", "9999", "0000", "0001"};
            for (String number : good) {
                s.again().text(1, "spend " + number + REST);
            }
            s.fault(6, "spend 10000" + REST).fault(6, "spend 00000" + REST).fault(6, "spend 99999" + REST);
            s.fault(6, "spend /" + REST).fault(6, "spend :" + REST).fault(7, "spend 1:" + REST);
        });
    }

    private static void signsAndBlanks() {
        Sentence.of("SIGNS ( ) ; + - * < = ;", s -> {
            String[] good = {"(1)", "1+1", "1-1", "1*1", "1<1", "1=1"};
            for (String e : good) {
                s.again().text(1, "spend " + e + REST);
            }
            String signs = "();+-*<= \n";
            for (int b = 0; b < 256; b++) {
                boolean begins = signs.indexOf(b) >= 0 || b >= '0' && b <= '9' || b >= 'a' && b <= 'z';
                if (!begins) {
                    s.fault(0, (char) b + "spend 1" + REST).fault(7, "spend 1" + (char) b + REST);
                    s.fault(9 + REST.length(), "spend 1 " + REST + " " + (char) b);
                }
            }
        });
        Sentence.of("blanks (32, 10) may stand between.", s -> {
            s.text(1, "spend 1;fill 0;pace 1;").text(2, "  spend\n1\n;\n\nfill 0 ; pace(1);\n ");
            s.text(3, "spend(1);fill(0);pace(1);");
            int[] others = {0, 9, 11, 13, 31, 33, 42, 128 + 32, 128 + 10};
            for (int b : others) {
                s.fault(5, "spend" + (char) b + "1;");
            }
            s.fault(0, "spe nd 1;").fault(8, "spend 1 2;").fault(6, "spend pow er;").fault(8, "spend 1\n2;");
        });
    }

    // ---- the grammar

    private static void text() {
        Sentence.of("TEXT: spend E ; fill E ; pace E ;", s -> {
            s.text(1, "spend 1;fill 1;pace 1;");
            s.fault(0, "fill 1;spend 1;pace 1;").fault(8, "spend 1;pace 1;fill 1;");
            s.fault(15, "spend 1;fill 1;spend 1;");
            s.fault(15, "spend 1;fill 1;fill 1;").fault(8, "spend 1;spend 1;").fault(0, ";").fault(0, "1;");
            s.fault(5, "spend;");
            s.fault(13, "spend 1;fill ;pace 1;").fault(20, "spend 1;fill 1;pace ;").fault(8, "spend 1 fill 1;");
            s.fault(14, "spend 1;fill 1pace 1;").fault(22, "spend 1;fill 1;pace 1;;");
            s.fault(22, "spend 1;fill 1;pace 1;1");
            s.fault(22, "spend 1;fill 1;pace 1;spend 1;fill 1;pace 1;").fault(21, "spend 1;fill 1;pace 1)");
        });
    }

    /** On a new object: what an E comes to as spend (0 to 99) for rider 0 at place 5 in tenth 0 of two. */
    private static void value(Sentence s, int due, String e) {
        s.again().go("tenth", -2, 3, 20).go("tenth", 0, 0, 20).go("rider", 0, 0, 40, 7);
        s.text(1, "spend " + e + REST).is(0, "force", 1).is(due, "says", 0, 0, 5, 0);
    }

    private static void eAndAnd() {
        Sentence.of("E: AND { or AND }.", s -> {
            value(s, 1, "1 or 0");
            value(s, 1, "0 or 0 or 0 or 5");
            value(s, 5, "5");
            value(s, 1, "1 or 1 and 0");
            value(s, 1, "0 and 1 or 1");
            s.fault(6, "spend or 1;").fault(10, "spend 1 or;").fault(11, "spend 1 or or 1;");
            s.fault(11, "spend 1 or and 1;");
        });
        Sentence.of("AND: NOT { and NOT }.", s -> {
            value(s, 1, "1 and 1");
            value(s, 0, "1 and 1 and 1 and 0");
            value(s, 1, "1 and not 0");
            value(s, 0, "not 0 and 0");
            s.fault(6, "spend and 1;").fault(11, "spend 1 and;").fault(12, "spend 1 and and 1;");
            s.fault(12, "spend 1 and or 1;");
        });
    }

    private static void not() {
        Sentence.of("NOT: not NOT, or SUM, perhaps < or = and a SUM.", s -> {
            value(s, 0, "not 1");
            value(s, 1, "not not 1");
            value(s, 0, "not 1 < 2");
            value(s, 1, "not 1 = 2");
            value(s, 1, "1 + 1 < 1 + 2");
            value(s, 1, "1 + 2 = 2 + 1");
            value(s, 1, "1 - 2 < 1 * 0");
            s.fault(12, "spend 1 < 2 < 3;").fault(12, "spend 1 < 2 = 3;").fault(12, "spend 1 = 2 = 3;");
            s.fault(12, "spend 1 = 2 < 3;").fault(10, "spend 1 < not 2;").fault(10, "spend 1 = not 2;");
            s.fault(10, "spend 1 + not 2;").fault(10, "spend 1 * not 2;").fault(8, "spend - not 2;");
            s.fault(9, "spend 1 <= 2;").fault(9, "spend 1 == 2;").fault(9, "spend 1 <;").fault(6, "spend < 1;");
            s.fault(8, "spend 1 not 2;").fault(9, "spend not;");
        });
    }

    private static void sums() {
        Sentence.of("SUM: TERM { + or - TERM }.", s -> {
            value(s, 5, "10 - 2 - 3");
            value(s, 11, "10 - (2 - 3)");
            value(s, 9, "10 - 2 + 3 - 2");
            value(s, 4, "10 - 2 * 3");
            s.fault(6, "spend + 1;").fault(9, "spend 1 +;").fault(10, "spend 1 + + 1;").fault(9, "spend 1 -;");
            s.fault(10, "spend 1 - + 1;");
        });
        Sentence.of("TERM: ONE { * ONE }.", s -> {
            value(s, 24, "2 * 3 * 4");
            value(s, 14, "2 + 3 * 4");
            value(s, 10, "2 * 3 + 4");
            value(s, 6, "-2 * -3");
            s.fault(6, "spend * 1;").fault(9, "spend 1 *;").fault(10, "spend 1 * * 1;").fault(10, "spend 1 * + 1;");
        });
    }

    private static void ones() {
        Sentence.of("ONE: a NUMBER, a NAME, - ONE, ( E ).", s -> {
            value(s, 99, "0099");
            value(s, 7, "store");
            value(s, 5, "- -5");
            value(s, 1, "4 - 3");
            value(s, 7, "4 - -3");
            value(s, 1, "(0 or 1 and 2 < 3 + 4 * 5)");
            value(s, 9, "(1 + 2) * 3");
            value(s, 5, "((5))");
            s.fault(7, "spend ();").fault(8, "spend (1;").fault(8, "spend (1").fault(7, "spend 1);");
            s.fault(9, "spend (1));");
            s.fault(7, "spend -;").fault(7, "spend 1(2);").fault(9, "spend (1)2;").fault(9, "spend (1)(2);");
            s.fault(12, "spend power power;").fault(7, "spend -+1;").fault(7, "spend (fill);");
        });
    }

    private static void words() {
        Sentence.of("NAMES are power place slope wind store left; spend, fill, pace, or, and, not are KEYS.", s -> {
            value(s, 40, "power");
            value(s, 5, "place");
            value(s, 2, "-slope");
            value(s, 3, "wind");
            value(s, 7, "store");
            value(s, 2, "left");
            String[] keys = {"spend", "fill", "pace", "or", "and"};
            for (String key : keys) {
                s.fault(6, "spend " + key + ";").fault(10, "spend 1 + " + key + ";");
            }
            String[] all = {"power", "place", "slope", "wind", "store", "left", "spend", "fill", "pace", "or", "and", "not"};
            for (String word : all) {
                none(s, word.substring(1));
                none(s, word.substring(0, word.length() - 1));
                none(s, word + "s");
                none(s, "s" + word);
                for (int i = 0; i < word.length(); i++) {
                    none(s, word.substring(0, i) + "x" + word.substring(i + 1));
                }
            }
        });
    }

    /** A word that is neither key nor name can't stand anywhere. */
    private static void none(Sentence s, String word) {
        s.fault(0, word + " 1;").fault(6, "spend " + word + ";").fault(8, "spend 1 " + word + " 1;");
        s.fault(8, "spend 1;" + word + " 1;").fault(15, "spend 1;fill 1;" + word + " 1;");
    }

    // ---- ints

    private static void wrapping() {
        Sentence.of("An E is an int (32 bits, wrapping):", s -> {
            // 8192 * 8192 * 32 is the 31st power of 2: the least int.
            value(s, 1, "8192*8192*32<0");
            value(s, 0, "8192*8192*32");
            value(s, 5, "8192*8192*64+5");
            value(s, 1, "0<8192*8192*32-1");
            value(s, 99, "8192*8192*32-1");
            value(s, 1, "8192*8192*32-1+1<0");
            value(s, 1, "8192*8192*32-1+1=8192*8192*32");
            value(s, 1, "8192*8192*32-store+store=8192*8192*32");
            value(s, 1, "-(8192*8192*32)<0");
            value(s, 1, "8192*8192*32=-(8192*8192*32)");
            value(s, 99, "-(8192*8192*32+1)");
            value(s, 1, "8192*8192*32<1");
            value(s, 0, "1<8192*8192*32");
            value(s, 1, "8192*8192*32<8192*8192*32-1");
            value(s, 1, "not (8192*8192*64)");
        });
    }

    private static void truth() {
        Sentence.of("of or, and, not, <, = 1 or 0 (what is not 0 is true).", s -> {
            value(s, 1, "2 or 4");
            value(s, 1, "0 or -1");
            value(s, 1, "-1 or 0");
            value(s, 0, "0 or 0");
            value(s, 1, "5 and 2");
            value(s, 1, "-1 and 8192*8192*32");
            value(s, 0, "2 and 0");
            value(s, 0, "0 and 2");
            value(s, 0, "0 and 0");
            value(s, 1, "not 0");
            value(s, 0, "not 2");
            value(s, 0, "not -1");
            value(s, 0, "not 8192*8192*32");
            value(s, 1, "1 < 2");
            value(s, 0, "2 < 2");
            value(s, 0, "3 < 2");
            value(s, 1, "-3 < -2");
            value(s, 1, "2 = 2");
            value(s, 0, "2 = 3");
            value(s, 0, "3 = 2");
        });
    }

    // ---- faults

    private static void faultPlaces() {
        Sentence.of("FAULT: the place of the first byte of the first TOKEN that can't stand there (the text's size, if it "
            + "ends too early), also of a byte that begins none, a WORD that is neither KEY nor NAME, "
            + "a NUMBER that is too long,", s -> {
                String whole = "spend 1;fill (1);pace power;";
                // Each beginning of a text ends too early, but where a word breaks off.
                int[] due = {0, 0, 0, 0, 0, 5, 6, 7, 8, 8, 8, 8, 12, 13, 14, 15, 16, 17, 17, 17, 17, 21, 22, 22, 22, 22,
                    22, 27};
                for (int size = 0; size < whole.length(); size++) {
                    s.fault(due[size], whole.substring(0, size));
                    if (due[size] == size) {
                        s.fault(size + 2, whole.substring(0, size) + " \n");
                    }
                }
                s.fault(3, " \n ").fault(160, " ".repeat(160)).fault(159, " ".repeat(159) + "?");
                s.fault(160, " ".repeat(152) + "spend(((").fault(158, " ".repeat(152) + "spend()1");
                s.fault(6, "spend ?12345;").fault(6, "spend 12345?;").fault(6, "spend x 12345;").fault(8, "spend 1 x;");
                s.fault(8, "spend 1 12345;").fault(8, "spend 1 ? x;").fault(6, "spend fill x;");
                s.fault(13, "spend 1;fill x;pace 12345;");
                String[] ahead = {"", " ", "spend ", "spend (", "spend -", "spend not ", "spend 1 ", "spend power ", "spend (1 ",
                    "spend (1)", "spend 1+", "spend 1-", "spend 1*", "spend 1<", "spend 1=", "spend 1 or ", "spend 1 and ",
                    "spend 1<1 ", "spend 1;", "spend 1;fill ", "spend 1;fill 1;", "spend 1;fill 1;pace 1;"};
                String[] none = {"?", "x", "12345", "powers", "A", "\u00ff"};
                for (String begun : ahead) {
                    for (String token : none) {
                        s.fault(begun.length(), begun + token).fault(begun.length(), begun + token + " 1;");
                    }
                }
            });
    }

    private static void opened() {
        Sentence.of("a ( , a not, a - ahead of a ONE while 5 of these are open", s -> {
            String[] five = {"(((((1)))))", "-----1", "not not not not not 1", "not(-(-1))", "-(-(-1))", "not not not--1",
                "1-----1", "1------1", "(((((1-1)))))", "-----1-1"};
            for (String e : five) {
                s.again().text(1, "spend " + e + REST);
            }
            s.fault(11, "spend ((((((1))))));").fault(11, "spend ------1;");
            s.fault(26, "spend not not not not not not 1;");
            s.fault(26, "spend not not not not not (1);").fault(26, "spend not not not not not -1;");
            s.fault(11, "spend (((((-1)))));").fault(11, "spend (((((not 1)))));").fault(11, "spend -----(1);");
            s.fault(13, "spend 1-------1;").fault(13, "spend 1------(1);").fault(13, "spend not(-(-(1)));");
            s.fault(11, "spend -(-(-(1)));").fault(15, "spend (((((1 + (1))))));").fault(13, "spend (((((1--1)))));");
            s.fault(21, "spend 1;fill -1+-----(1);").fault(27, "spend 1;fill 1;pace not(((((1)))));");
        });
    }

    private static void closed() {
        Sentence.of("(a ( till its ) , not and - till what they belong to ends).", s -> {
            String[] good = {"(((((1)))))+(((((1)))))", "-----1*-----1", "-----1------1", "not not not not not 1 and not 1",
                "not not not not not 1 or -----1", "not 1 and (((((1)))))", "(not 1)+-----1", "-(1)*-----1",
                "(-1)+(((((1)))))", "not(1)and -----1", "(((((1))))+((((1)))))", "not not not not 1<-1",
                "not not not not -1<-1", "-1+-1+-1+-1+-1+-1+-1", "(1)+(1)+(1)+(1)+(1)+(1)+(1)"};
            for (String e : good) {
                s.again().text(1, "spend " + e + ";fill (((((1)))));pace -----1;");
            }
            s.fault(16, "spend not 1<-----1;").fault(16, "spend not 1+(((((1)))));");
            s.fault(19, "spend not not 1=--(-1);");
            s.fault(16, "spend not 1*(----1);").fault(15, "spend (1+((((1+(1))))));");
            s.fault(16, "spend (-1)+((((((1))))));");
        });
    }

    // ---- texts, and what they say

    private static void texts() {
        Sentence.of("There are 6 TEXTS at most, TEXT 0 with them.", s -> {
            s.is(1, "count", 2).is(0, "force", 0).no(BAD, "force", 1);
            for (int i = 1; i < 6; i++) {
                s.text(i, "spend " + i + REST).is(i + 1, "count", 2);
            }
            s.tape("spend 6" + REST).no(FULL, "text").is(6, "count", 2).is(0, "force", 5).no(BAD, "force", 6);
            s.flat(1).riders(1).is(5, "says", 0, 0, 0, 0);
        });
    }

    private static void names() {
        Sentence.of("Of a RIDER in a TENTH: power: POWER; place: how many ride ahead of it in its group (0 with SIDE 1, if "
            + "as many as WIDE do, or more); slope; wind; store: STORE now; left: TENTHS left (that one, too).", s -> {
                s.go("tenth", 0, 0, 2 * 3 + 1).go("tenth", 0, 0, 2 * 3).go("tenth", 0, 0, 3).go("tenth", -9, 9, 41);
                s.go("rider", 0, 0, 1, 0).rule("spend place;fill place+20;pace place+40;");
                int[] three = {0, 1, 2, 0, 0, 0, 0, 0, 0, 0, 0, 0};
                for (int place = 0; place < 12; place++) {
                    s.is(three[place], "says", 0, 0, place, 0).is(place, "says", 0, 1, place, 0);
                    s.is(0, "says", 0, 2, place, 0).is(place, "says", 0, 3, place, 0);
                }
                s.is(22, "says", 0, 0, 2, 1).is(20, "says", 0, 0, 3, 1).is(42, "says", 0, 0, 2, 2);
                s.is(40, "says", 0, 0, 3, 2);
                s.rule("spend power;fill slope+9;pace wind;").is(1, "says", 0, 0, 0, 0).go("set", 0, 0, 99);
                s.is(99, "says", 0, 0, 0, 0).is(9, "says", 0, 0, 0, 1).is(0, "says", 0, 3, 0, 1);
                s.is(9, "says", 0, 3, 0, 2);
                s.again().flat(40).go("rider", 0, 0, 1, 0).rule("spend left;fill store;pace left;");
                s.is(40, "says", 0, 0, 0, 0).is(1, "says", 0, 39, 0, 0).is(40, "says", 0, 0, 0, 2);
                s.is(0, "says", 0, 0, 0, 1);
                s.go("set", 0, 1, 98).is(98, "says", 0, 0, 0, 1).is(1 + 2 + 3, "ride", 1, 3739, 0);
                // In the ride: 98 - 2 + 98, then less 1 and 99 more, as the bound of fill has it.
                s.is(98 - 292, "spent", 1, 3839, 0);
            });
    }

    private static void spendFillPace() {
        String[] told = {"spend: what a TENTH costs it (0 .. 99, else the bound);",
            "fill: what it gains by it (0 .. 99, else the bound);",
            "pace: how fast a group goes whose front it is (1 .. 99, else the bound)."};
        String[] texts = {"spend store-100;fill 0;pace 1;", "spend 0;fill store-100;pace 1;", "spend 0;fill 0;pace store-100;"};
        String[] far = {"spend E;fill 0;pace 1;", "spend 0;fill E;pace 1;", "spend 0;fill 0;pace E;"};
        for (int i = 0; i < 3; i++) {
            int key = i;
            int least = key == 2 ? 1 : 0;
            Sentence.of(told[key], s -> {
                s.flat(1).riders(1).rule(texts[key]);
                int[] stores = {0, 99, 100, 101, 102, 198, 199, 200, 201, 999};
                int[] due = {least, least, least, 1, 2, 98, 99, 99, 99, 99};
                for (int k = 0; k < stores.length; k++) {
                    s.go("set", 0, 1, stores[k]).is(due[k], "says", 0, 0, 0, key);
                }
                s.rule(far[key].replace("E", "8192*8192*32")).is(least, "says", 0, 0, 0, key);
                s.rule(far[key].replace("E", "8192*8192*32-1")).is(99, "says", 0, 0, 0, key);
                s.rule(far[key].replace("E", "8192*8192*64+7")).is(7, "says", 0, 0, 0, key);
            });
        }
    }

    private static void theRule() {
        Sentence.of("TEXT 0, at first THE RULE, is: spend 12 + wind - place * 4 + slope ; fill place ; "
            + "pace power - slope - wind ;", s -> {
                s.is(0, "count", 4).go("tenth", 4, 3, 2 * 3 + 1).go("tenth", -9, 0, 20).go("tenth", 9, 9, 20);
                s.go("rider", 0, 0, 40, 500).go("rider", 0, 0, 1, 500);
                int[] spend = {19, 15, 11, 19, 19};
                int[] fill = {0, 1, 2, 0, 0};
                for (int place = 0; place < 5; place++) {
                    s.is(spend[place], "says", 0, 0, place, 0).is(fill[place], "says", 0, 0, place, 1);
                    s.is(33, "says", 0, 0, place, 2);
                }
                s.is(3, "says", 0, 1, 0, 0).is(0, "says", 0, 1, 1, 0).is(49, "says", 0, 1, 0, 2);
                s.is(11, "says", 0, 1, 11, 1);
                s.is(30, "says", 0, 2, 0, 0).is(22, "says", 0, 2, 0, 2).is(1, "says", 1, 2, 0, 2);
            });
    }

    // ---- promises 7 to 10

    private static void feedPromise() {
        Sentence.of("The n lowest bytes of a number, the lowest first, come behind THE TAPE: how many it has. "
            + "BAD: n is not 1 .. 8. FULL.", s -> {
                s.bounds(0, 1, 8, BAD, 1, 9, "feed", 1, 0x2020202020202020L).is(-100 - 9, "text");
                s.again().is(2, "feed", 2, 0x3f2020L).is(3, "feed", 1, 0xffffffffffffff20L).is(-100 - 3, "text");
                s.again().is(2, "feed", 2, 0x3f20L).is(-100 - 1, "text").is(2, "feed", 2, 0x203fL).is(-100, "text");
                s.again().is(8, "feed", 8, 0x3f20202020202020L).is(-100 - 7, "text");
                s.again().is(8, "feed", 8, 0x8020202020202020L).is(-100 - 7, "text");
                s.again().is(8, "feed", 8, -1).is(-100, "text");
                for (int room = 0; room < 8; room++) {
                    s.again().tape(" ".repeat(160 - room));
                    for (int n = room + 1; n <= 8; n++) {
                        s.no(FULL, "feed", n, 0);
                    }
                    s.no(BAD, "feed", 0, 0).no(BAD, "feed", 9, 0).is(160 - room, "count", 3);
                    if (room > 0) {
                        s.is(160, "feed", room, 0);
                    }
                }
            });
    }

    private static void textPromise() {
        Sentence.of("THE TAPE, which is empty then (by a FAULT, too), is a TEXT: its number; "
            + "-100 less the place of its FAULT. FULL (ahead of all): no TEXT more has room (THE TAPE stays).", s -> {
                s.is(-100, "text").text(1, "spend 1" + REST).is(0, "count", 3).is(-100, "text");
                s.text(-101, " ?").is(0, "count", 3).text(-260, " ".repeat(160)).is(0, "count", 3).is(2, "count", 2);
                s.text(2, "spend 2" + REST).text(3, "spend 3" + REST).text(4, "spend 4" + REST);
                s.text(5, "spend 5" + REST);
                s.no(FULL, "text").is(0, "count", 3).is(1, "feed", 1, '?').no(FULL, "text").is(1, "count", 3);
                s.is(2, "feed", 1, ' ').no(FULL, "text").is(2, "count", 3);
            });
    }

    private static void forcePromise() {
        Sentence.of("A TEXT is THE RULE: which was. BAD.", s -> {
            s.flat(1).riders(1).no(BAD, "force", 1).is(0, "force", 0);
            for (int i = 1; i < 6; i++) {
                s.text(i, "spend " + i + REST);
            }
            s.is(0, "count", 4).bounds(0, 0, 5, BAD, 0, 0, "force", 0).is(5, "count", 4).is(5, "says", 0, 0, 0, 0);
            s.is(5, "force", 2).is(2, "says", 0, 0, 0, 0).is(2, "force", 2).is(2, "force", 0);
            s.is(12, "says", 0, 0, 0, 0);
        });
    }

    private static void saysPromise() {
        Sentence.of("What spend (0), fill (1), pace (2) come to for a RIDER at a place (0 .. 11) in a TENTH. BAD.", s -> {
            s.go("tenth", -1, 0, 20).flat(38).go("tenth", 1, 0, 20);
            s.go("rider", 0, 0, 40, 0).riders(10).go("rider", 0, 0, 60, 0);
            s.bounds(0, 0, 11, BAD, 41, 61, "says", 0, 0, 0, 2).bounds(1, 0, 39, BAD, 41, 39, "says", 0, 0, 0, 2);
            s.bounds(2, 0, 11, BAD, 0, 11, "says", 0, 0, 0, 1).bounds(3, 0, 2, BAD, 11, 41, "says", 0, 0, 0, 0);
            s.is(0, "says", 0, 0, 0, 1);
            s.again().riders(1).no(BAD, "says", 0, 0, 0, 0).again().flat(1).no(BAD, "says", 0, 0, 0, 0);
        });
    }
}
