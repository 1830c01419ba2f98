/** The sentences on texts, each with a test of its own: those of part 1 of the terms, and promises 6 to 8. */
final class TextEdges extends Check {
    private static final int FAULT = -1000100;
    private static final String SORTS = "m" + A15 + ";n" + A15 + ";";
    private static final String HEAD = "l0,0;" + SORTS + "c" + COLUMNS + ";";

    static void go() {
        tapeIsFull();
        tokensAreLetters();
        tokensAreNumbers();
        tokensAreSigns();
        nothingElse();
        partsOfACounty();
        law();
        land();
        sheet();
        districts();
        kindsOfSurveyors();
        numbersOfSurveyors();
        atMostFourSurveyors();
        standsInPlace();
        firstFault();
        leastFault();
        cannotStand();
        threeFigures();
        theEnd();
        notAsTold();
        noRoom();
        feeds();
        feedBad();
        feedFull();
        readsTheTape();
        allStays();
        latestFault();
        noFaultYet();
    }

    private static void fault(String text, int place, int number) {
        MapItch x = new MapItch();
        due("county() of " + text, read(x, text), FAULT - place);
        due("fault() of " + text, x.fault(), number);
        due("bytes behind " + text, x.count(7), 0);
        due("no county behind " + text, x.bits(0), STATE);
    }

    private static void good(String text, int men) {
        MapItch x = new MapItch();
        due("county() of " + text, read(x, text), men);
        due("fault() of " + text, x.fault(), 0);
    }

    private static void tapeIsFull() {
        says(TERMS, "TEXTS: THE TAPE has at most 120 bytes, that come one by one;");
        MapItch x = new MapItch();
        for (int n = 1; n <= 120; n++) {
            due("byte " + n, x.feed('l'), n);
            due("count(7)", x.count(7), n);
        }
        due("byte 121", x.feed('l'), FULL);
        due("count(7)", x.count(7), 120);
    }

    private static void tokensAreLetters() {
        says(TERMS, "TOKENS: letters a to z (each by itself),");
        fault("ll", 1, 1);
        fault("l0,0;mabq", 8, 1);
        fault("l0,0;mm", 6, 1);
        fault(HEAD + "pz", HEAD.length() + 1, 1);
        fault("L0,0;", 0, 1);
        fault("l0,0;mA", 6, 1);
        for (char letter = 'a'; letter <= 'z'; letter++) {
            fault("" + letter, letter == 'l' ? 1 : 0, 1);
        }
    }

    private static void tokensAreNumbers() {
        says(TERMS, "NUMBERS (figures, 2 at most),");
        good("l0,0;" + SORTS + "c" + COLUMNS + ";", 0);
        good("l00,00;" + SORTS + "c" + COLUMNS + ";", 0);
        good("l09,03;" + SORTS + "c" + COLUMNS + ";p02,05;", 1);
        fault("l000,0;", 1, 1);
        fault("l0,003;", 3, 1);
        fault("l-1,0;", 1, 1);
        fault("l+1,0;", 1, 1);
        fault("l1 4,0;", 2, 1);
    }

    private static void tokensAreSigns() {
        says(TERMS, "SIGNS , and ;");
        fault(",", 0, 1);
        fault(";", 0, 1);
        fault("l0;", 2, 1);
        fault("l0,,", 3, 1);
        fault("l0,0,", 4, 1);
        fault("l0,0;;", 5, 1);
        fault(HEAD + ";", HEAD.length(), 1);
        fault(HEAD + "p0;1;", HEAD.length() + 2, 1);
        fault(HEAD + "p0,1,", HEAD.length() + 4, 1);
    }

    private static void nothingElse() {
        says(TERMS, "nothing else.");
        String[] ahead = {"", "l", "l0", "l0,", "l0,0", "l0,0;", "l0,0;m", "l0,0;maa", HEAD, HEAD + "p", HEAD + "p0,1;"};
        for (String text : ahead) {
            for (int one = 0; one <= 255; one++) {
                boolean isToken = one >= 'a' && one <= 'z' || one >= '0' && one <= '9' || one == ',' || one == ';';
                if (!isToken) {
                    fault(text + (char) one, text.length(), 1);
                }
            }
        }
    }

    private static void partsOfACounty() {
        says(TERMS, "county: law land sheet districts { surveyor }.");
        good(HEAD, 0);
        good(HEAD + "p0,1;", 1);
        good(HEAD + "p0,1;p0,1;p0,1;p0,1;", 4);
        fault("", 0, 1);
        fault(SORTS, 0, 1);
        fault("l0,0;n", 5, 1);
        fault("l0,0;m" + A15 + ";c", 22, 1);
        fault("l0,0;" + SORTS + "p", 39, 1);
        fault(HEAD + "l0,0;", HEAD.length(), 1);
        fault(HEAD + "p0,1;c", HEAD.length() + 5, 1);
    }

    private static void law() {
        says(TERMS, "law: l SHIFT , BY ; (0 to 14; 0 to 3).");
        String rest = SORTS + "c" + COLUMNS + ";";
        for (int number = 0; number <= 99; number++) {
            MapItch x = new MapItch();
            due("shift " + number, read(x, "l" + number + ",1;" + rest), number <= 14 ? 0 : FAULT - 1);
            due("count(2)", x.count(2), number <= 14 ? number : 0);
            due("fault()", x.fault(), number <= 14 ? 0 : 2);
            MapItch y = new MapItch();
            due("by " + number, read(y, "l14," + number + ";" + rest), number <= 3 ? 0 : FAULT - 4);
            due("count(3)", y.count(3), number <= 3 ? number : 0);
            due("fault()", y.fault(), number <= 3 ? 0 : 2);
        }
        fault("l,0;", 1, 1);
        fault("l0,;", 3, 1);
        fault("l;", 1, 1);
    }

    private static void land() {
        says(TERMS, "land: m and 15 SORTS ;");
        fault("l0,0;m;", 6, 1);
        fault("l0,0;m" + A15.substring(1) + ";", 20, 1);
        fault("l0,0;m" + A15 + "a;", 21, 1);
        fault("l0,0;m" + A15 + ",", 21, 1);
        for (int cell = 0; cell < 15; cell++) {
            fault("l0,0;m" + with(A15, cell, 'e'), 6 + cell, 1);
        }
    }

    private static void sheet() {
        says(TERMS, "sheet: n and 15 SORTS ; (a SORT: a 0, b 1, c 2, d 3, a letter each).");
        String ahead = "l0,0;m" + A15 + ";n";
        fault(ahead + ";", 23, 1);
        fault(ahead + A15.substring(1) + ";", 37, 1);
        fault(ahead + A15 + "a;", 38, 1);
        for (char letter = 'a'; letter <= 'z'; letter++) {
            if (letter > 'd') {
                fault(ahead + "abcd" + letter, 27, 1);
            }
        }
        for (int cell = 0; cell < 15; cell++) {
            for (int sort = 0; sort <= 3; sort++) {
                String sorts = with(A15, cell, (char) ('a' + sort));
                MapItch x = with("0,0", sorts, A15, COLUMNS, "");
                due("land of " + cell, x.cell(cell, 0), sort);
                due("sheet of " + cell, x.cell(cell, 1), 0);
                x = with("0,0", A15, sorts, COLUMNS, "");
                due("land of " + cell, x.cell(cell, 0), 0);
                due("sheet of " + cell, x.cell(cell, 1), sort);
            }
        }
    }

    private static void districts() {
        says(TERMS, "districts: c and 15 letters ; (e 0, f 1, g 2: the DISTRICT of each CELL).");
        String ahead = "l0,0;" + SORTS + "c";
        fault(ahead + ";", 40, 1);
        fault(ahead + WHOLE.substring(1) + ";", 54, 1);
        fault(ahead + WHOLE + "e;", 55, 1);
        for (char letter = 'a'; letter <= 'z'; letter++) {
            if (letter < 'e' || letter > 'g') {
                fault(ahead + "efg" + letter, 43, 1);
            }
        }
        for (int cell = 0; cell < 15; cell++) {
            for (int district = 0; district <= 2; district++) {
                MapItch x = with("0,0", A15, A15, with("ggggggggggggggg", cell, (char) ('e' + district)), "");
                due("district of " + cell, x.cell(cell, 2), district);
                due("district of another", x.cell((cell + 1) % 15, 2), 2);
            }
        }
    }

    private static void kindsOfSurveyors() {
        says(TERMS, "surveyor: KIND DISTRICT , SCALE ; (p a plain one, z a lazy one, y a tender one, k a clerk, "
            + "o an obliged one;");
        for (char letter = 'a'; letter <= 'z'; letter++) {
            int kind = "pzyko".indexOf(letter) + 1;
            MapItch x = new MapItch();
            due("county() with " + letter, read(x, HEAD + letter + "0,1;"), kind > 0 ? 1 : FAULT - HEAD.length());
            due("kind(0) of " + letter, x.kind(0), kind > 0 ? kind : BAD);
        }
    }

    private static void numbersOfSurveyors() {
        says(TERMS, "0 to 2; 1 to 5;");
        int at = HEAD.length();
        for (int number = 0; number <= 99; number++) {
            MapItch x = new MapItch();
            due("district " + number, read(x, HEAD + "k" + number + ",5;"), number <= 2 ? 1 : FAULT - at - 1);
            due("surveyor(0, 0)", x.surveyor(0, 0), number <= 2 ? number : BAD);
            due("fault()", x.fault(), number <= 2 ? 0 : 2);
            boolean isScale = number >= 1 && number <= 5;
            MapItch y = new MapItch();
            due("scale " + number, read(y, HEAD + "k2," + number + ";"), isScale ? 1 : FAULT - at - 3);
            due("surveyor(0, 1)", y.surveyor(0, 1), isScale ? number : BAD);
            due("fault()", y.fault(), isScale ? 0 : 2);
        }
    }

    private static void atMostFourSurveyors() {
        says(TERMS, "SURVEYORS 0 .. 3, 4 at most).");
        String men = "p0,1;z1,2;y2,3;k0,4;";
        int[] kinds = {1, 2, 3, 4};
        for (int many = 0; many <= 4; many++) {
            MapItch x = with("0,0", A15, A15, COLUMNS, men.substring(0, 5 * many));
            due("count(1)", x.count(1), many);
            for (int one = -1; one <= 4; one++) {
                due("kind(" + one + ") of " + many, x.kind(one), one >= 0 && one < many ? kinds[one] : BAD);
            }
        }
        fault(HEAD + men + "o0,5;", HEAD.length() + 20, 3);
    }

    private static void standsInPlace() {
        says(TERMS, "A COUNTY that is read stands in place of the one before (none at first): YEAR 0; "
            + "no ACT can be undone.");
        MapItch x = new MapItch();
        due("none at first", x.cell(0, 0), STATE);
        due("the first", read(x, text("14,3", B15, A15, WHOLE, "o0,5;p0,1;")), 2);
        x.years(2);
        x.brook(3);
        x.stroke(4, 2);
        due("acts", x.count(6), 4);
        due("the second", read(x, text("2,1", A15, A15, COLUMNS, "z1,3;")), 1);
        int[] counts = {0, 1, 2, 1, 0, 0, 0, 0};
        for (int what = 0; what <= 7; what++) {
            due("count(" + what + ")", x.count(what), counts[what]);
        }
        due("undo()", x.undo(), STATE);
        for (int cell = 0; cell < 15; cell++) {
            due("land", x.cell(cell, 0), 0);
            due("sheet", x.cell(cell, 1), 0);
            due("district", x.cell(cell, 2), COLUMNS.charAt(cell) - 'e');
        }
        due("seams", x.bits(1), 30 | 30 << 5 | 30 << 10);
        due("kind(0)", x.kind(0), 2);
        due("kind(1)", x.kind(1), BAD);
        due("the same once more", read(x, text("2,1", A15, A15, COLUMNS, "z1,3;")), 1);
        due("one of nobody, without seams", read(x, text("0,0", B15, A15, WHOLE, "")), 0);
        due("surveyor(0, 0)", x.surveyor(0, 0), BAD);
        due("seams", x.bits(1), 0);
        due("felt by nobody", x.unfelt(), 32767);
        for (int cell = 0; cell < 15; cell++) {
            due("felt by nobody", x.cell(cell, 4), 0);
        }
        due("all rest", x.settled(0), 0);
    }

    private static void firstFault() {
        says(TERMS, "FAULTS, the first TOKEN that has one (its first byte),");
        fault("l15,9;x", 1, 2);
        fault("l14,99;x", 4, 2);
        fault("l0x99", 2, 1);
        fault("l0,0;mx;n!", 6, 1);
        fault(HEAD + "p3,9;", HEAD.length() + 1, 2);
        fault(HEAD + "p2,09;", HEAD.length() + 3, 2);
        fault(HEAD + "p2,66;x", HEAD.length() + 3, 2);
        fault(HEAD + "p0,1;z2,1;q", HEAD.length() + 10, 1);
    }

    private static void leastFault() {
        says(TERMS, "of one TOKEN the least:");
        fault("l999,0;", 1, 1);
        fault("99", 0, 1);
        fault("l0,0;99", 5, 1);
        fault("l0,0;m99", 6, 1);
        String four = HEAD + "p0,1;p0,1;p0,1;p0,1;";
        fault(four + "x0,1;", four.length(), 1);
        fault(four + "99", four.length(), 1);
        fault(four + ",", four.length(), 1);
    }

    private static void cannotStand() {
        says(TERMS, "1 it cannot stand there,");
        fault("m", 0, 1);
        fault("0", 0, 1);
        fault("la", 1, 1);
        fault("l0l", 2, 1);
        fault("l0,l", 3, 1);
        fault("l0,0l", 4, 1);
        fault("l0,0;l", 5, 1);
        fault("l0,0;m1", 6, 1);
        fault("l0,0;" + SORTS + "n", 39, 1);
        fault(HEAD + "c", HEAD.length(), 1);
        fault(HEAD + "p,", HEAD.length() + 1, 1);
        fault(HEAD + "p0p", HEAD.length() + 2, 1);
        fault(HEAD + "p0,p", HEAD.length() + 3, 1);
        fault(HEAD + "p0,1p", HEAD.length() + 4, 1);
    }

    private static void threeFigures() {
        says(TERMS, "or is none (a run of three figures, at its first;");
        fault("l000,0;", 1, 1);
        fault("l014,0;", 1, 1);
        fault("l123", 1, 1);
        fault("l00000000", 1, 1);
        fault("l14,003;", 4, 1);
        fault("123", 0, 1);
        fault(HEAD + "p001,1;", HEAD.length() + 1, 1);
        fault(HEAD + "p1,005;", HEAD.length() + 3, 1);
        good("l14,03;" + SORTS + "c" + COLUMNS + ";p01,05;", 1);
    }

    private static void theEnd() {
        says(TERMS, "the end: how many bytes there are);");
        String whole = HEAD + "p0,1;z2,5;";
        for (int bytes = 0; bytes <= whole.length(); bytes++) {
            if (bytes != HEAD.length() && bytes != HEAD.length() + 5 && bytes != HEAD.length() + 10) {
                fault(whole.substring(0, bytes), bytes, 1);
            }
        }
        good(HEAD, 0);
        good(HEAD + "p0,1;", 1);
        good(whole, 2);
    }

    private static void notAsTold() {
        says(TERMS, "2 a NUMBER that is not as told;");
        fault("l15", 1, 2);
        fault("l14,4", 4, 2);
        fault("l99x", 1, 2);
        fault(HEAD + "p3", HEAD.length() + 1, 2);
        fault(HEAD + "p0,0", HEAD.length() + 3, 2);
        fault(HEAD + "p0,00;", HEAD.length() + 3, 2);
        fault(HEAD + "p0,6", HEAD.length() + 3, 2);
    }

    private static void noRoom() {
        says(TERMS, "3 a surveyor more than there is room for (its letter).");
        String four = HEAD + "p0,1;z0,1;y0,1;k0,1;";
        for (char letter : "pzyko".toCharArray()) {
            fault(four + letter + "0,1;", four.length(), 3);
            fault(four + letter, four.length(), 3);
            fault(four + letter + "999", four.length(), 3);
        }
        good(four, 4);
    }

    private static void feeds() {
        says(6, "A byte (0 to 255) comes behind the tape: how many it has.");
        MapItch x = new MapItch();
        due("feed(0)", x.feed(0), 1);
        due("feed(255)", x.feed(255), 2);
        due("feed(128)", x.feed(128), 3);
        due("read, and empty", x.county(), FAULT);
        due("the next one", x.feed('l'), 1);
        due("behind it", x.feed('9'), 2);
        due("in this order", x.county(), FAULT - 2);
        due("feed(l + 128) is another byte", x.feed('l' + 128), 1);
        due("county()", x.county(), FAULT);
    }

    private static void feedBad() {
        says(6, "BAD;");
        MapItch x = new MapItch();
        for (int letter : new int[] {-1, 256, Integer.MIN_VALUE, Integer.MAX_VALUE, 'l' + 256, 'l' - 256}) {
            due("feed(" + letter + ")", x.feed(letter), BAD);
        }
        due("none came", x.count(7), 0);
    }

    private static void feedFull() {
        says(6, "FULL.");
        MapItch x = new MapItch();
        feed(x, HEAD + "p0,1;");
        int bytes = HEAD.length() + 5;
        for (int n = bytes + 1; n <= 120; n++) {
            due("feed", x.feed('x'), n);
        }
        due("feed(0)", x.feed(0), FULL);
        due("feed(255)", x.feed(255), FULL);
        due("BAD ahead of it", x.feed(256), BAD);
        due("the tape is as it was", x.county(), FAULT - bytes);
        due("room again", x.feed('l'), 1);
    }

    private static void readsTheTape() {
        says(7, "The tape, empty then, is read: how many SURVEYORS there are.");
        MapItch x = new MapItch();
        for (int many = 0; many <= 4; many++) {
            due("county()", read(x, HEAD + "p0,1;z1,2;y2,3;k0,4;".substring(0, 5 * many)), many);
            due("count(7)", x.count(7), 0);
            due("an empty tape", x.county(), FAULT);
            due("they stay", x.count(1), many);
        }
        due("the longest", read(x, "l14,03;" + SORTS + "c" + COLUMNS + ";p00,01;z01,02;y02,03;k00,04;"), 4);
    }

    private static void allStays() {
        says(7, "-1000100 less the place of a FAULT: all stays.");
        MapItch x = with("3,1", A15, A15, COLUMNS, "p1,2;o2,5;");
        x.brook(0);
        x.years(1);
        x.image(1);
        x.ask(0, 0);
        x.stroke(5, 2);
        String[] texts = {"", "l", "l0,0;mq", "l0,9", HEAD + "p0,1;p0,1;p0,1;p0,1;p", HEAD.replace("m", "n")};
        int[] places = {0, 1, 6, 3, HEAD.length() + 20, 5};
        for (int k = 0; k < texts.length; k++) {
            due("county() of " + texts[k], read(x, texts[k]), FAULT - places[k]);
            int[] counts = {0, 2, 3, 1, 1, 3, 3, 0};
            for (int what = 0; what <= 7; what++) {
                due("count(" + what + ")", x.count(what), counts[what]);
            }
            due("wrong", x.bits(0), 1 | 1 << 5 | 1 << 8);
            due("kinds", x.kind(0) * 10 + x.kind(1), 15);
            due("trace", x.trace(0), 11);
        }
        due("undo", x.undo(), 2);
        due("the image", x.restore(1), 1);
    }

    private static void latestFault() {
        says(8, "The number of the latest FAULT;");
        MapItch x = new MapItch();
        String four = HEAD + "p0,1;p0,1;p0,1;p0,1;";
        read(x, four + "p0,1;");
        due("fault()", x.fault(), 3);
        read(x, "l99,");
        due("fault()", x.fault(), 2);
        read(x, "q");
        due("fault()", x.fault(), 1);
        due("asked once more", x.fault(), 1);
        read(x, "l99,");
        read(x, four);
        due("one that is read has none", x.fault(), 2);
        x.feed('q');
        due("none yet", x.fault(), 2);
    }

    private static void noFaultYet() {
        says(8, "0 before one.");
        MapItch x = new MapItch();
        due("a new one", x.fault(), 0);
        feed(x, "qqq");
        due("not read yet", x.fault(), 0);
        x.county();
        due("read", x.fault(), 1);
        x = new MapItch();
        read(x, HEAD);
        due("a good text", x.fault(), 0);
    }
}
