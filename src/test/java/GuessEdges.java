/** The sentences on strokes, itches that are told, men and signs, each with a test of its own: promises 17 to 23. */
final class GuessEdges extends Check {
    private static final int LEAST = Integer.MIN_VALUE, MOST = Integer.MAX_VALUE;
    private static final int COLUMN = 1 | 1 << 5 | 1 << 10;

    static void go() {
        nothingChanges();
        fewestStrokes();
        firstStrokes();
        strokesThatAreNone();
        strokesNone();
        trueStrokes();
        falseCells();
        eachCell();
        fits();
        fitWith();
        scratches();
        scratchesOfLikeOnes();
        scratchesNone();
        men();
        menOfSeveral();
        signs();
        strokesOf();
        strokesBad();
        strokesState();
        unfeltOf();
        unfeltState();
        eachOf();
        eachBad();
        eachState();
        eachNull();
        eachPlace();
        fitOf();
        fitRefused();
        fitBad();
        scratchOf();
        scratchRefused();
        menOf();
        menBad();
        menState();
        signOf();
        signNone();
        signBad();
        signState();
    }

    private static void nothingChanges() {
        says(TERMS, "3 FORETOLD (nothing changes).");
        MapItch x = with("2,1", "bbbaaaaaaaaaaaa", A15, COLUMNS, "o0,1;p1,2;");
        fill(x, 0, 2, 1, 2, 0, 0);
        x.brook(9);
        x.stroke(3, 2);
        x.strokes(0, -1);
        x.strokes(1, 0);
        x.unfelt();
        x.each(0, 0);
        x.fit(0, 0, 1);
        x.scratch(0, 0);
        x.men(1);
        x.sign(0);
        x.settled(0);
        x.drawnSo(0, 5, 6, 0);
        x.quarrel(0, 0, 0);
        x.drawn(60, 7, 0);
        int[] counts = {1, 2, 2, 1, 0, 6, 2, 0};
        for (int what = 0; what <= 7; what++) {
            due("count(" + what + ")", x.count(what), counts[what]);
        }
        due("wrong", x.bits(0), 7 | 1 << 3 | 1 << 5 | 1 << 9);
        due("sheet", x.cell(3, 1) * 10 + x.cell(5, 1), 21);
        items(x, 0, 2, 1, 2, 0, 0);
        due("undo", x.undo(), 1);
    }

    private static void plan(MapItch x, int isTrue, int many, int first, int second) {
        due("how many (" + isTrue + ")", x.strokes(isTrue, -1), many);
        due("the first (" + isTrue + ")", x.strokes(isTrue, 0), first);
        due("the second (" + isTrue + ")", x.strokes(isTrue, 1), second);
    }

    private static void fewestStrokes() {
        says(TERMS, "STROKES: the fewest (0 to 2) by which all are AT REST;");
        plan(with("0,0", A15, A15, WHOLE, "p0,1;"), 0, 0, NONE, NONE);
        plan(with("0,0", B15, A15, WHOLE, ""), 0, 0, NONE, NONE);
        plan(with("0,0", B15, A15, WHOLE, "o0,1;z0,1;"), 0, 0, NONE, NONE);
        plan(with("0,0", with(A15, 9, 'c'), A15, WHOLE, "p0,1;"), 0, 1, 9 * 4 + 2, NONE);
        plan(with("0,0", "aaabaaaaaaaaaaa", "aaaaaaaaaaaaaca", WHOLE, "p0,1;"), 0, 2, 3 * 4 + 1, 13 * 4);
        // each of two strokes mends two cells
        plan(with("1,1", "dbaaaaacbaaaaaa", A15, WHOLE, "p0,1;"), 0, 2, 3, 7 * 4 + 2);
        // what is drawn wrong behind the strokes may be where nobody feels it
        plan(with("4,1", with(A15, 0, 'b'), A15, COLUMNS, "p0,1;"), 0, 1, 1, NONE);
    }

    private static void firstStrokes() {
        says(TERMS, "the first such row (by CELLS, SORTS: 4 times the CELL, and the SORT;");
        for (int cell = 0; cell < 15; cell++) {
            for (int sort = 1; sort <= 3; sort++) {
                MapItch x = with("0,0", with(A15, cell, (char) ('a' + sort)), A15, WHOLE, "k0,1;");
                plan(x, 0, 1, 4 * cell + sort, NONE);
            }
        }
        // 5 as b, then 4 as b (it shifts 5 to c); or 4 as b, then 5 as c: the latter is first
        plan(with("1,1", "aaaabcbaaaaaaaa", A15, WHOLE, "p0,1;"), 0, 2, 4 * 4 + 1, 5 * 4 + 2);
        plan(with("0,0", "bbaaaaaaaaaaaaa", A15, COLUMNS, "y0,1;"), 0, 2, 1, 5);
        plan(with("0,0", A15, "baaaaaaaaaaaaab", WHOLE, "p0,1;"), 0, 2, 0, 14 * 4);
    }

    private static void strokesThatAreNone() {
        says(TERMS, "those that draw a CELL as it is are none);");
        // 0 drawn as it is would shift 1 to what the land is
        plan(with("1,1", with(A15, 1, 'b'), A15, WHOLE, "p0,1;"), 0, NONE, NONE, NONE);
        // 0 drawn as b, and back, shifts 1 twice
        plan(with("1,1", with(A15, 1, 'c'), A15, WHOLE, "p0,1;"), 0, 2, 1, 0);
        // 3 drawn as b shifts 4 to b: to draw 4 as b, which would shift 5, is none then
        plan(with("1,1", "aaabbbaaaaaaaaa", A15, WHOLE, "p0,1;"), 0, NONE, NONE, NONE);
        // to draw it as it was ahead of the first stroke is one
        plan(with("1,1", "aaababaaaaaaaaa", A15, WHOLE, "p0,1;"), 0, 2, 3 * 4 + 1, 4 * 4);
    }

    private static void strokesNone() {
        says(TERMS, "NONE. TRUE");
        plan(with("0,0", "bbbaaaaaaaaaaaa", A15, WHOLE, "p0,1;"), 0, NONE, NONE, NONE);
        plan(with("0,0", B15, A15, WHOLE, "p0,1;"), 0, NONE, NONE, NONE);
        plan(with("1,0", "babababababbbbb", A15, WHOLE, "k0,1;"), 1, NONE, NONE, NONE);
    }

    private static void trueStrokes() {
        says(TERMS, "TRUE, if no CELL is WRONG then: the same, by rows of which that holds.");
        plan(with("0,0", A15, A15, WHOLE, "p0,1;"), 1, 0, NONE, NONE);
        plan(with("0,0", with(A15, 14, 'd'), A15, WHOLE, ""), 1, 1, 14 * 4 + 3, NONE);
        MapItch x = with("0,0", "baaabaaaaaaaaaa", A15, COLUMNS, "p0,1;");
        plan(x, 0, 1, 1, NONE);
        plan(x, 1, 2, 1, 4 * 4 + 1);
        x = with("4,1", with(A15, 0, 'b'), A15, COLUMNS, "p0,1;");
        plan(x, 0, 1, 1, NONE);
        plan(x, 1, NONE, NONE, NONE);
        x = with("0,0", "bbbaaaaaaaaaaaa", A15, COLUMNS, "");
        plan(x, 0, 0, NONE, NONE);
        plan(x, 1, NONE, NONE, NONE);
    }

    private static void falseCells() {
        says(TERMS, "FALSE: WRONG CELLS (bits) that nobody FEELS with an ITCH.");
        due("nobody", with("0,0", B15, A15, COLUMNS, "").unfelt(), 32767);
        due("none wrong", with("0,0", B15, B15, COLUMNS, "").unfelt(), 0);
        due("all felt", with("0,0", B15, A15, WHOLE, "k0,1;").unfelt(), 0);
        due("beyond e and its seam", with("0,0", B15, A15, COLUMNS, "p0,1;").unfelt(), 24 * COLUMN);
        due("lazy by 1", with("0,0", B15, A15, COLUMNS, "z0,1;").unfelt(), 32767);
        due("lazy by 2", with("0,0", B15, A15, COLUMNS, "z0,2;").unfelt(), 24 * COLUMN);
        due("obliged, within", with("0,0", B15, A15, COLUMNS, "o0,5;").unfelt(), 25 * COLUMN);
        due("no cell of its", with("0,0", B15, A15, WHOLE, "p2,5;").unfelt(), 32767);
        due("one cell", with("0,0", with(A15, 14, 'b'), A15, COLUMNS, "p0,1;").unfelt(), 1 << 14);
    }

    private static void eachCell() {
        says(TERMS, "EACH: CELLS (bits), any one of which, if it alone were WRONG, would make ITCHES as they are told.");
        MapItch x = with("0,0", B15, A15, COLUMNS, "y0,2;p1,3;");
        int[][] told = {{2, 0}, {4, 3}, {0, 3}, {0, 0}, {4, 0}, {-2, 0}, {2, 3}};
        int[] cells = {COLUMN, 6 * COLUMN, 24 * COLUMN, 0, 0, 0, 0};
        for (int k = 0; k < told.length; k++) {
            fill(x, 0, 2, told[k][0], told[k][1]);
            due("each of " + told[k][0] + ", " + told[k][1], x.each(0, 0), cells[k]);
        }
        x = with("0,0", A15, A15, COLUMNS, "");
        x.row(0, 0, 0);
        due("nobody itches: any cell", x.each(0, 0), 32767);
        x = with("0,0", A15, A15, WHOLE, "k0,5;");
        fill(x, 0, 0, 1);
        due("a clerk: any cell", x.each(0, 0), 32767);
    }

    private static void fits() {
        says(TERMS, "FIT: a row tells ITCHES of all surveyors: sets of WRONG CELLS (2 at most) that make them so: how many;");
        // of e: three cells by 1 within, six by 2 at its seam, six by 0 beyond
        MapItch x = with("0,0", B15, A15, COLUMNS, "y0,1;");
        int[] many = {1 + 6 + 15, 3 + 18, 3 + 6 + 36, 18, 15, 0};
        for (int itch = 0; itch <= 5; itch++) {
            fill(x, 0, 2, itch);
            due("how many by " + itch, x.fit(0, 0, 0), many[itch]);
        }
        x.set(0, 0, -1);
        due("below none", x.fit(0, 0, 0), 0);
        x = with("0,0", A15, A15, WHOLE, "k0,1;");
        int[] byOnes = {1, 15, 105, 0};
        for (int itch = 0; itch <= 3; itch++) {
            fill(x, 0, 2, itch);
            due("of " + itch + " cells", x.fit(0, 0, 0), byOnes[itch]);
        }
        x = with("0,0", A15, A15, WHOLE, "");
        x.row(0, 2, 0);
        due("nobody: all of them", x.fit(0, 0, 0), 1 + 15 + 105);
    }

    private static void fitWith() {
        says(TERMS, "the one with the fewest, of like ones the least bits; NONE.");
        MapItch x = with("0,0", B15, A15, COLUMNS, "y0,1;");
        int[] best = {0, 1, 2, 3, 2 | 4, NONE};
        for (int itch = 0; itch <= 5; itch++) {
            fill(x, 0, 2, itch);
            due("by " + itch, x.fit(0, 0, 1), best[itch]);
        }
        // 1 (f beside g) and 4 (f beside e) itch as 0 (f) and 8 (f beside both) do, and have the least bits
        x = with("0,0", A15, A15, "ffffffggfeffffe", "k0,1;k1,1;k2,1;");
        fill(x, 0, 2, 1, 2, 1);
        due("the least bits, not the least cell", x.fit(0, 0, 1), 1 << 1 | 1 << 4);
        x = with("0,0", A15, A15, WHOLE, "k0,1;");
        fill(x, 0, 2, 3);
        due("three cells are too many", x.fit(0, 0, 1), NONE);
        due("NONE is no finding", x.status(), 0);
    }

    private static void scratches() {
        says(TERMS, "SCRATCH by a row: the CELL that is in nearest to half of these "
            + "(by how far twice their number is from all),");
        // 0: 22 sets, each beyond in 6, no other in any; 1: 21 sets, each within in 7, each beyond in 3;
        // 2: 45 sets, each within in 2, each at a seam in 7, each beyond in 6; 3: 18 sets, each within in 6, at a seam in 3
        MapItch x = with("0,0", A15, A15, COLUMNS, "y0,1;");
        int[] due = {3, 0, 1, 0, 1};
        for (int itch = 0; itch <= 4; itch++) {
            fill(x, 0, 2, itch);
            due("by " + itch, x.scratch(0, 0), due[itch]);
        }
        // 0 with each of 9, 13 and 14: it is in all of these, as far from half as a cell that is in none
        x = with("0,0", A15, A15, "eegggeggggggggf", "k1,1;p0,3;k2,1;");
        fill(x, 0, 2, 1, 3, 1);
        due("fit", x.fit(0, 0, 0), 3);
        due("in one of three", x.scratch(0, 0), 9);
        // two of 2, 7 and 12, which f alone feels, and e does not: each is in two of these three, all others in none
        x = with("0,0", A15, A15, "efggeefggeefggg", "p0,1;p1,1;");
        fill(x, 0, 2, 0, 2);
        due("fit", x.fit(0, 0, 0), 3);
        due("in two of three", x.scratch(0, 0), 2);
    }

    private static void scratchesOfLikeOnes() {
        says(TERMS, "of like ones the least;");
        MapItch x = with("0,0", A15, A15, WHOLE, "k0,1;");
        for (int itch = 0; itch <= 2; itch++) {
            fill(x, 0, 2, itch);
            due("all cells are alike by " + itch, x.scratch(0, 0), 0);
        }
        x = with("0,0", A15, A15, COLUMNS, "k2,1;");
        fill(x, 0, 2, 2);
        due("the least of g and its seam", x.scratch(0, 0), 3);
    }

    private static void scratchesNone() {
        says(TERMS, "NONE: none fits.");
        MapItch x = with("0,0", A15, A15, WHOLE, "k0,1;");
        for (int itch : new int[] {3, 15, -1, MOST, LEAST}) {
            fill(x, 0, 2, itch);
            due("by " + itch, x.scratch(0, 0), NONE);
            due("NONE is no finding", x.status(), 0);
        }
    }

    private static void men() {
        says(TERMS, "MEN: the fewest surveyors who together FEEL all SEAMS;");
        due("no seams", with("0,0", A15, A15, WHOLE, "p0,1;").men(0), 0);
        due("no seams, nobody", with("0,0", A15, A15, WHOLE, "").men(0), 0);
        due("one", with("0,0", A15, A15, COLUMNS, "p0,1;p1,1;").men(0), 1);
        due("two", with("0,0", A15, A15, COLUMNS, "p0,1;p2,1;p0,1;p2,1;").men(0), 2);
        due("one around all others", with("0,0", A15, A15, "efgeeeeeeeeeefg", "p1,1;p2,1;p0,1;").men(0), 1);
        due("all are needed", with("0,0", A15, A15, "effggeffggeffgg", "p0,1;z2,1;").men(0), 2);
    }

    private static void menOfSeveral() {
        says(TERMS, "which (bits), of several the least; NONE.");
        due("no seams", with("0,0", A15, A15, WHOLE, "p0,1;").men(1), 0);
        due("the least of two", with("0,0", A15, A15, COLUMNS, "p0,1;p1,1;p1,1;").men(1), 2);
        due("one of more bits", with("0,0", A15, A15, COLUMNS, "p0,1;p2,1;p0,1;p1,1;").men(1), 8);
        due("the least of four pairs", with("0,0", A15, A15, COLUMNS, "p0,1;p0,1;p2,1;p2,1;").men(1), 1 | 4);
        due("none", with("0,0", A15, A15, COLUMNS, "p0,1;p0,1;").men(1), NONE);
        due("none feels the first cell", with("0,0", A15, A15, "efgggfggggggggg", "p2,1;p2,1;").men(1), NONE);
        due("none feels the last cell", with("0,0", A15, A15, "gggggggggfgggfe", "p2,1;p2,1;").men(1), NONE);
        due("one feels it", with("0,0", A15, A15, "efgggfggggggggg", "p2,1;p2,1;p1,1;").men(1), 4);
        due("nobody", with("0,0", A15, A15, COLUMNS, "").men(1), NONE);
        due("how many: none", with("0,0", A15, A15, COLUMNS, "").men(0), NONE);
    }

    private static void signs() {
        says(TERMS, "SIGN: all surveyors by ITCH, the least first, of like ones by numbers: the k-th.");
        MapItch x = with("0,0", with(A15, 0, 'b'), A15, COLUMNS, "p0,3;k0,1;p2,5;y0,1;");
        int[] due = {2, 1, 3, 0};
        for (int k = 0; k < 4; k++) {
            due("sign(" + k + ")", x.sign(k), due[k]);
        }
        x = plainCounty();
        for (int k = 0; k < 4; k++) {
            due("all alike: sign(" + k + ")", x.sign(k), k);
        }
        x = with("0,0", B15, A15, WHOLE, "p0,5;p0,4;p0,3;p0,2;");
        for (int k = 0; k < 4; k++) {
            due("the other way round: sign(" + k + ")", x.sign(k), 3 - k);
        }
    }

    private static void strokesOf() {
        says(17, "STROKES (isTrue = 0), TRUE (1): how many (k = -1), the k-th (0, 1; NONE).");
        MapItch x = with("0,0", "baabaaaaaaaaaaa", A15, COLUMNS, "p0,1;");
        plan(x, 0, 1, 1, NONE);
        plan(x, 1, 2, 1, 3 * 4 + 1);
        x.stroke(0, 1);
        plan(x, 0, 0, NONE, NONE);
        plan(x, 1, 1, 3 * 4 + 1, NONE);
        x.stroke(3, 1);
        plan(x, 1, 0, NONE, NONE);
        for (int k = 0; k < 3; k++) {
            x.brook(10 + k);
        }
        plan(x, 0, NONE, NONE, NONE);
        plan(x, 1, NONE, NONE, NONE);
    }

    private static void strokesBad() {
        says(17, "BAD;");
        MapItch x = plainCounty();
        for (int isTrue : new int[] {-1, 2, LEAST, MOST}) {
            due("isTrue " + isTrue, x.strokes(isTrue, 0), BAD);
        }
        for (int k : new int[] {-2, 2, LEAST, MOST}) {
            due("k " + k, x.strokes(0, k), BAD);
            due("k " + k, x.strokes(1, k), BAD);
        }
    }

    private static void strokesState() {
        says(17, "STATE: no COUNTY (ahead of BAD).");
        MapItch x = new MapItch();
        due("strokes(0, -1)", x.strokes(0, -1), STATE);
        due("isTrue 2", x.strokes(2, 0), STATE);
        due("k -2", x.strokes(0, -2), STATE);
    }

    private static void unfeltOf() {
        says(18, "FALSE.");
        MapItch x = with("0,0", A15, A15, COLUMNS, "p0,1;o2,1;");
        due("none is wrong", x.unfelt(), 0);
        x.brook(0);
        due("felt by the plain one", x.unfelt(), 0);
        x.oblige(0);
        x.brook(14);
        due("felt at a seam by the obliged one", x.unfelt(), 0);
        x = with("0,0", B15, A15, COLUMNS, "o1,1;");
        due("e within", x.unfelt(), COLUMN);
    }

    private static void unfeltState() {
        says(18, "STATE: no COUNTY.");
        MapItch x = new MapItch();
        due("unfelt()", x.unfelt(), STATE);
        read(x, "l0,0;m");
        due("a text with a fault", x.unfelt(), STATE);
    }

    private static void eachOf() {
        says(19, "EACH, as many ITEMS as SURVEYORS, of a ROW from i on.");
        for (int lane = 0; lane <= 2; lane++) {
            MapItch x = with("0,0", A15, A15, COLUMNS, "y0,2;p1,3;");
            fill(x, 5, lane, 9, 2, 0, 4, 3, 0, 3, 9);
            int[] due = {0, COLUMN, 0, 6 * COLUMN, 0, 24 * COLUMN, 0};
            for (int i = 0; i < due.length; i++) {
                due("each(5, " + i + ") of lane " + lane, x.each(5, i), due[i]);
                due("status", x.status(), 0);
            }
        }
        MapItch x = with("0,0", A15, A15, WHOLE, "k0,1;k0,1;k0,1;k0,1;");
        x.row(0, 0, 40);
        for (int i = 36; i < 40; i++) {
            x.set(0, i, 1);
        }
        due("the last four of forty", x.each(0, 36), 32767);
        due("four of which one is 0", x.each(0, 35), 0);
        due("a byte is below 0 by its highest bit", x.set(0, 36, 255), -1);
        due("no itch is", x.each(0, 36), 0);
    }

    private static void eachBad() {
        says(19, "BAD: ROW;");
        MapItch x = plainCounty();
        for (int row : new int[] {-1, 8, LEAST, MOST}) {
            due("row " + row, x.each(row, 0), BAD);
            due("row " + row + ", no such place", x.each(row, -1), BAD);
        }
    }

    private static void eachState() {
        says(19, "STATE: no COUNTY (ahead of BAD);");
        MapItch x = new MapItch();
        due("row 8", x.each(8, 0), STATE);
        due("a missing row", x.each(0, 0), STATE);
        x.row(0, 0, 4);
        due("a row", x.each(0, 0), STATE);
        due("no such place", x.each(0, -1), STATE);
    }

    private static void eachNull() {
        says(19, "NULL;");
        MapItch x = plainCounty();
        for (int row = 0; row < 8; row++) {
            due("row " + row, x.each(row, 0), NULL);
        }
        due("ahead of PLACE", x.each(0, -1), NULL);
        due("status", x.status(), 1);
        MapItch y = with("0,0", A15, A15, WHOLE, "");
        due("though no item is wanted", y.each(0, 0), NULL);
    }

    private static void eachPlace() {
        says(19, "PLACE.");
        for (int men = 0; men <= 4; men++) {
            MapItch x = with("0,0", A15, A15, WHOLE, "k0,1;k0,1;k0,1;k0,1;".substring(0, 5 * men));
            x.row(0, 2, 6);
            for (int i : new int[] {-1, 7 - men, 7, 40, LEAST, MOST}) {
                due("place " + i + " of " + men, x.each(0, i), PLACE);
                due("status", x.status(), 2);
            }
            due("the last place", x.each(0, 6 - men), men == 0 ? 32767 : 0);
            due("the first place", x.each(0, 0), men == 0 ? 32767 : 0);
        }
    }

    private static void fitOf() {
        says(20, "FIT, likewise: how many (what = 0), which (1; NONE).");
        MapItch x = with("0,0", A15, A15, WHOLE, "k0,1;p0,5;");
        fill(x, 3, 1, 7, 1, 5, 2, 10, 3, 15);
        int[] many = {0, 15, 0, 105, 0, 0};
        int[] which = {NONE, 1, NONE, 3, NONE, NONE};
        for (int i = 0; i <= 5; i++) {
            due("fit(3, " + i + ", 0)", x.fit(3, i, 0), many[i]);
            due("fit(3, " + i + ", 1)", x.fit(3, i, 1), which[i]);
            due("status", x.status(), 0);
        }
    }

    private static void fitRefused() {
        says(20, "Refused likewise;");
        MapItch x = new MapItch();
        due("no county", x.fit(8, 0, 0), STATE);
        due("no county, what", x.fit(0, 0, 2), STATE);
        x = plainCounty();
        for (int row : new int[] {-1, 8, LEAST, MOST}) {
            due("row " + row, x.fit(row, 0, 0), BAD);
        }
        due("missing", x.fit(0, -1, 0), NULL);
        due("status", x.status(), 1);
        x.row(0, 2, 6);
        for (int i : new int[] {-1, 3, 6, LEAST, MOST}) {
            due("place " + i, x.fit(0, i, 0), PLACE);
            due("place " + i, x.fit(0, i, 1), PLACE);
            due("status", x.status(), 2);
        }
        due("the last place", x.fit(0, 2, 1), 0);
    }

    private static void fitBad() {
        says(20, "BAD: what, too (ahead of NULL).");
        MapItch x = plainCounty();
        x.row(1, 2, 4);
        for (int what : new int[] {-1, 2, LEAST, MOST}) {
            due("what " + what, x.fit(1, 0, what), BAD);
            due("what " + what + " of a missing row", x.fit(0, 0, what), BAD);
            due("what " + what + " of no such place", x.fit(1, 1, what), BAD);
            due("status", x.status(), 0);
        }
    }

    private static void scratchOf() {
        says(21, "SCRATCH, likewise; NONE.");
        MapItch x = with("0,0", A15, A15, COLUMNS, "k0,1;p2,5;");
        fill(x, 3, 0, 7, 0, 5, 1, 0, 9);
        int[] due = {NONE, 3, NONE, 0, NONE};
        for (int i = 0; i <= 4; i++) {
            due("scratch(3, " + i + ")", x.scratch(3, i), due[i]);
            due("status", x.status(), 0);
        }
    }

    private static void scratchRefused() {
        says(21, "Refused as each().");
        MapItch x = new MapItch();
        due("no county", x.scratch(8, 0), STATE);
        due("no county, missing", x.scratch(0, 0), STATE);
        x = plainCounty();
        for (int row : new int[] {-1, 8, LEAST, MOST}) {
            due("row " + row, x.scratch(row, 0), BAD);
        }
        due("missing", x.scratch(0, -1), NULL);
        due("status", x.status(), 1);
        x.row(0, 2, 6);
        for (int i : new int[] {-1, 3, 6, LEAST, MOST}) {
            due("place " + i, x.scratch(0, i), PLACE);
            due("status", x.status(), 2);
        }
        due("the last place", x.scratch(0, 2), 0);
        due("status", x.status(), 0);
    }

    private static void menOf() {
        says(22, "MEN: how many (what = 0), which (1); NONE.");
        MapItch x = with("0,0", A15, A15, COLUMNS, "p0,1;k2,1;o0,1;k2,1;");
        due("men(0)", x.men(0), 2);
        due("men(1)", x.men(1), 3);
        x = with("0,0", A15, A15, COLUMNS, "p0,1;");
        due("men(0)", x.men(0), NONE);
        due("men(1)", x.men(1), NONE);
        x = with("0,0", A15, A15, WHOLE, "");
        due("men(0)", x.men(0), 0);
        due("men(1)", x.men(1), 0);
    }

    private static void menBad() {
        says(22, "BAD;");
        for (int what : new int[] {-1, 2, LEAST, MOST}) {
            due("men(" + what + ")", plainCounty().men(what), BAD);
            due("with no answer", with("0,0", A15, A15, COLUMNS, "").men(what), BAD);
        }
    }

    private static void menState() {
        says(22, "STATE: no COUNTY (ahead of BAD).");
        for (int what = -1; what <= 2; what++) {
            due("men(" + what + ")", new MapItch().men(what), STATE);
        }
    }

    private static void signOf() {
        says(23, "SIGN: the k-th (0 on).");
        MapItch x = with("0,0", B15, A15, WHOLE, "p0,2;k0,1;y0,2;o0,1;");
        int[] due = {3, 1, 0, 2};
        for (int k = 0; k <= 3; k++) {
            due("sign(" + k + ")", x.sign(k), due[k]);
        }
    }

    private static void signNone() {
        says(23, "NONE: no such one.");
        for (int men = 0; men <= 4; men++) {
            MapItch x = with("0,0", A15, A15, WHOLE, "k0,1;k0,1;k0,1;k0,1;".substring(0, 5 * men));
            for (int k = 0; k <= 3; k++) {
                due("sign(" + k + ") of " + men, x.sign(k), k < men ? k : NONE);
            }
        }
    }

    private static void signBad() {
        says(23, "BAD: k not 0 to 3;");
        for (int k : new int[] {-1, 4, LEAST, MOST}) {
            due("sign(" + k + ")", plainCounty().sign(k), BAD);
            due("of nobody", with("0,0", A15, A15, WHOLE, "").sign(k), BAD);
        }
    }

    private static void signState() {
        says(23, "STATE: no COUNTY (ahead of BAD).");
        for (int k = -1; k <= 4; k++) {
            due("sign(" + k + ")", new MapItch().sign(k), STATE);
        }
    }
}
