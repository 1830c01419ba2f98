/** The sentences on what is done, each with a test of its own: promises 9 to 16. */
final class ActEdges extends Check {
    private static final int LEAST = Integer.MIN_VALUE, MOST = Integer.MAX_VALUE;
    private static final int[] NO_CELLS = {-1, 15, 16, LEAST, MOST};

    static void go() {
        undoes();
        undoState();
        strokes();
        strokeBad();
        strokeStateNoCounty();
        strokeStateDrawnSo();
        brooks();
        brookBad();
        brookState();
        obliges();
        obligeBad();
        years();
        yearsBad();
        yearsState();
        yearsFull();
        cellOf();
        cellBad();
        cellState();
        surveyorOf();
        surveyorBad();
        bitsOf();
        bitsBad();
        bitsState();
    }

    private static void undoes() {
        says(9, "The latest ACT is undone: how many can be undone yet.");
        MapItch x = with("1,1", A15, A15, COLUMNS, "o0,1;");
        x.brook(0);
        x.brook(1);
        x.years(1);
        due("undo()", x.undo(), 2);
        due("the year", x.count(4), 0);
        due("undo()", x.undo(), 1);
        due("cell 1", x.cell(1, 0), 0);
        due("an act between", x.stroke(9, 3), 1 | 1 << 9 | 1 << 10);
        due("undo()", x.undo(), 1);
        due("both cells of it", x.cell(9, 1) + x.cell(10, 1), 0);
        due("undo()", x.undo(), 0);
        due("cell 0", x.cell(0, 0), 0);
        x.years(24);
        due("23 yet", x.undo(), 23);
    }

    private static void undoState() {
        says(9, "STATE: none.");
        MapItch x = new MapItch();
        due("no county", x.undo(), STATE);
        read(x, text("0,0", A15, A15, COLUMNS, "p0,1;"));
        due("no act yet", x.undo(), STATE);
        x.stroke(0, 0);
        x.brook(15);
        x.years(25);
        x.oblige(1);
        due("what is refused is no act", x.undo(), STATE);
        x.brook(0);
        due("one", x.undo(), 0);
        due("none is left", x.undo(), STATE);
    }

    private static void strokes() {
        says(10, "A stroke: CELLS that are WRONG then (bits).");
        MapItch x = with("5,1", A15, A15, COLUMNS, "");
        due("two", x.stroke(0, 1), 1 | 1 << 5);
        due("over the end", x.stroke(14, 3), 1 | 1 << 4 | 1 << 5 | 1 << 14);
        due("as the land is", x.stroke(14, 0), 1 | 1 << 4 | 1 << 5);
        due("the shifted one by itself", x.cell(4, 1), 2);
        due("an act each", x.count(6), 3);
        due("none", with("0,0", A15, with(A15, 3, 'b'), COLUMNS, "").stroke(3, 0), 0);
        due("no year", x.count(4), 0);
    }

    private static void strokeBad() {
        says(10, "BAD;");
        MapItch x = with("0,0", A15, A15, COLUMNS, "");
        for (int cell : NO_CELLS) {
            due("cell " + cell, x.stroke(cell, 1), BAD);
            due("cell " + cell + ", drawn so elsewhere", x.stroke(cell, 0), BAD);
        }
        for (int sort : new int[] {-1, 4, 5, LEAST, MOST}) {
            due("sort " + sort, x.stroke(0, sort), BAD);
        }
        due("nothing is drawn", x.bits(0), 0);
        due("the last cell, the last sort", x.stroke(14, 3), 1 << 14);
        due("the first cell", x.stroke(0, 1), 1 | 1 << 14);
        due("the first sort", x.stroke(14, 0), 1);
    }

    private static void strokeStateNoCounty() {
        says(10, "STATE: no COUNTY (ahead of BAD),");
        MapItch x = new MapItch();
        due("stroke(0, 1)", x.stroke(0, 1), STATE);
        due("no such cell", x.stroke(15, 1), STATE);
        due("no such sort", x.stroke(0, 4), STATE);
    }

    private static void strokeStateDrawnSo() {
        says(10, "it is drawn so.");
        String sorts = "abcdabcdabcdabc";
        MapItch x = with("1,1", B15, sorts, COLUMNS, "");
        for (int cell = 0; cell < 15; cell++) {
            due("cell " + cell, x.stroke(cell, cell % 4), STATE);
        }
        due("no act", x.count(6), 0);
        due("nothing is shifted", x.cell(1, 1), 1);
        due("drawn otherwise", x.stroke(0, 1), 32767 & ~(1 | 1 << 5 | 1 << 9 | 1 << 13));
        due("now it is drawn so", x.stroke(0, 1), STATE);
        due("the shifted one is drawn so, too", x.stroke(1, 2), STATE);
        due("one act", x.count(6), 1);
    }

    private static void brooks() {
        says(11, "A brook: the SORT then.");
        MapItch x = with("0,0", "abcdaaaaaaaaaaa", A15, COLUMNS, "");
        due("a", x.brook(0), 1);
        due("b", x.brook(1), 2);
        due("c", x.brook(2), 3);
        due("d", x.brook(3), 0);
        due("the last cell", x.brook(14), 1);
        due("an act each", x.count(6), 5);
        due("others stay", x.cell(4, 0), 0);
    }

    private static void brookBad() {
        says(11, "BAD;");
        MapItch x = plainCounty();
        for (int cell : NO_CELLS) {
            due("cell " + cell, x.brook(cell), BAD);
        }
        due("no act", x.count(6), 0);
    }

    private static void brookState() {
        says(11, "STATE: no COUNTY (ahead of BAD).");
        MapItch x = new MapItch();
        due("brook(0)", x.brook(0), STATE);
        due("no such cell", x.brook(15), STATE);
        due("no such cell", x.brook(-1), STATE);
    }

    private static void obliges() {
        says(12, "The land OBLIGES a surveyor: in how many CELLS.");
        MapItch x = with("0,0", B15, A15, COLUMNS, "p2,1;y0,1;");
        due("three", x.oblige(0), 3);
        due("none", x.oblige(0), 0);
        due("six", x.oblige(1), 6);
        due("f is wrong yet", x.bits(0), 12 | 12 << 5 | 12 << 10);
        due("no year", x.count(4), 0);
        due("undone", x.undo(), 2);
        due("six again", x.oblige(1), 6);
    }

    private static void obligeBad() {
        says(12, "BAD.");
        MapItch x = new MapItch();
        due("no county", x.oblige(0), BAD);
        read(x, text("0,0", B15, A15, COLUMNS, ""));
        due("nobody", x.oblige(0), BAD);
        read(x, text("0,0", B15, A15, COLUMNS, "p2,1;y0,1;"));
        for (int one : new int[] {-1, 2, 3, 4, LEAST, MOST}) {
            due("surveyor " + one, x.oblige(one), BAD);
        }
        due("no act", x.count(6), 0);
        due("all is wrong", x.bits(0), 32767);
    }

    private static void years() {
        says(13, "n YEARS (1 to 24), an ACT each: CELLS that are WRONG (bits).");
        MapItch x = with("0,0", B15, A15, WHOLE, "o0,1;");
        due("one", x.years(1), 32766);
        due("an act", x.count(6), 1);
        due("three more", x.years(3), 32767 & ~15);
        due("an act each", x.count(6), 4);
        due("undone one by one", x.undo(), 3);
        due("the year", x.count(4), 3);
        due("wrong then", x.bits(0), 32767 & ~7);
        due("24", x.years(24), 0);
        due("acts that are kept", x.count(6), 24);
        due("the year", x.count(4), 27);
    }

    private static void yearsBad() {
        says(13, "BAD;");
        MapItch x = plainCounty();
        for (int n : new int[] {0, -1, 25, LEAST, MOST}) {
            due("years(" + n + ")", x.years(n), BAD);
        }
        due("the year", x.count(4), 0);
        due("years(24)", x.years(24), 0);
        due("years(1)", x.years(1), 0);
    }

    private static void yearsState() {
        says(13, "STATE: no COUNTY (ahead of BAD);");
        MapItch x = new MapItch();
        for (int n : new int[] {1, 24, 0, 25, LEAST, MOST}) {
            due("years(" + n + ")", x.years(n), STATE);
        }
    }

    private static void yearsFull() {
        says(13, "FULL: more than 999 would be gone.");
        MapItch x = with("0,0", A15, A15, WHOLE, "");
        for (int k = 1; k <= 41; k++) {
            due("years(24)", x.years(24), 0);
        }
        due("41 times 24", x.count(4), 984);
        for (int n = 16; n <= 24; n++) {
            due("years(" + n + ")", x.years(n), FULL);
        }
        due("BAD ahead of FULL", x.years(25), BAD);
        due("none of them is gone", x.count(4), 984);
        due("up to 999", x.years(15), 0);
        due("999", x.count(4), 999);
        due("one more", x.years(1), FULL);
        due("BAD ahead of FULL", x.years(0), BAD);
        due("undone", x.undo(), 23);
        due("998", x.count(4), 998);
        due("two more", x.years(2), FULL);
        due("one more", x.years(1), 0);
        x.image(0);
        read(x, text("0,0", A15, A15, WHOLE, ""));
        due("another county", x.years(24), 0);
        x.restore(0);
        due("the image", x.years(1), FULL);
    }

    private static void cellOf() {
        says(14, "Of a CELL: 0 SORT of the land, 1 SORT on the sheet, 2 DISTRICT, 3 whether it is a SEAM (1, 0), "
            + "4 surveyors who FEEL it (bits).");
        MapItch x = with("0,0", "abcdabcdabcdabc", "dddddcccccbbbbb", COLUMNS, "p0,1;z1,2;y2,3;k1,4;");
        int[] feel = {1, 1 | 2 | 8, 1 | 2 | 8, 2 | 4 | 8, 2 | 4 | 8};
        for (int cell = 0; cell < 15; cell++) {
            due("land of " + cell, x.cell(cell, 0), cell % 4);
            due("sheet of " + cell, x.cell(cell, 1), 3 - cell / 5);
            due("district of " + cell, x.cell(cell, 2), COLUMNS.charAt(cell) - 'e');
            due("seam " + cell, x.cell(cell, 3), cell % 5 == 0 ? 0 : 1);
            due("who feels " + cell, x.cell(cell, 4), feel[cell % 5]);
        }
        due("felt by nobody", with("0,0", A15, A15, COLUMNS, "p2,1;").cell(0, 4), 0);
        due("nobody is there", with("0,0", A15, A15, COLUMNS, "").cell(1, 4), 0);
    }

    private static void cellBad() {
        says(14, "BAD;");
        MapItch x = plainCounty();
        for (int cell : NO_CELLS) {
            for (int what = 0; what <= 4; what++) {
                due("cell " + cell + ", what " + what, x.cell(cell, what), BAD);
            }
        }
        for (int what : new int[] {-1, 5, LEAST, MOST}) {
            due("what " + what, x.cell(0, what), BAD);
        }
    }

    private static void cellState() {
        says(14, "STATE: no COUNTY (ahead of BAD).");
        MapItch x = new MapItch();
        due("cell(0, 0)", x.cell(0, 0), STATE);
        due("no such cell", x.cell(15, 0), STATE);
        due("no such what", x.cell(0, 5), STATE);
    }

    private static void surveyorOf() {
        says(15, "Of a surveyor: 0 DISTRICT, 1 SCALE, 2 ITCH, 3 CELLS that it FEELS (bits).");
        int column = 1 | 1 << 5 | 1 << 10;
        MapItch x = with("0,0", B15, A15, COLUMNS, "p0,5;z1,4;y2,1;o0,2;");
        int[][] due = {
            {0, 5, 45, 7 * column}, {1, 4, 24, 30 * column}, {2, 1, 12, 24 * column}, {0, 2, 6, 7 * column}
        };
        for (int one = 0; one < 4; one++) {
            for (int what = 0; what < 4; what++) {
                due("surveyor(" + one + ", " + what + ")", x.surveyor(one, what), due[one][what]);
            }
        }
    }

    private static void surveyorBad() {
        says(15, "BAD.");
        MapItch x = new MapItch();
        due("no county", x.surveyor(0, 0), BAD);
        read(x, text("0,0", B15, A15, COLUMNS, ""));
        due("nobody", x.surveyor(0, 0), BAD);
        read(x, text("0,0", B15, A15, COLUMNS, "p0,1;z0,1;"));
        for (int one : new int[] {-1, 2, 3, 4, LEAST, MOST}) {
            due("surveyor " + one, x.surveyor(one, 0), BAD);
        }
        for (int what : new int[] {-1, 4, LEAST, MOST}) {
            due("what " + what, x.surveyor(1, what), BAD);
        }
        due("the last", x.surveyor(1, 1), 1);
    }

    private static void bitsOf() {
        says(16, "CELLS that are WRONG (what = 0), SEAMS (1), surveyors AT REST (2), as bits.");
        MapItch x = with("0,0", "bcdabcdabcdabcd", A15, COLUMNS, "p0,1;z0,1;y2,3;o2,4;");
        due("wrong", x.bits(0), 32767 & ~(1 << 3 | 1 << 7 | 1 << 11));
        due("seams", x.bits(1), 30 | 30 << 5 | 30 << 10);
        due("at rest", x.bits(2), 2);
        x = with("0,0", A15, A15, WHOLE, "p0,1;z0,1;y2,3;o2,4;");
        due("none wrong", x.bits(0), 0);
        due("no seam", x.bits(1), 0);
        due("all rest", x.bits(2), 15);
    }

    private static void bitsBad() {
        says(16, "BAD;");
        MapItch x = plainCounty();
        for (int what : new int[] {-1, 3, LEAST, MOST}) {
            due("bits(" + what + ")", x.bits(what), BAD);
        }
    }

    private static void bitsState() {
        says(16, "STATE: no COUNTY (ahead of BAD).");
        MapItch x = new MapItch();
        for (int what = -1; what <= 3; what++) {
            due("bits(" + what + ")", x.bits(what), STATE);
        }
    }
}
