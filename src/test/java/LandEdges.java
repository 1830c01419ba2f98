/** The sentences on the land, on what is felt of it and on acts, each with a test of its own: part 2 of the terms. */
final class LandEdges extends Check {
    static void go() {
        cells();
        wrong();
        seams();
        feels();
        plainItch();
        lazyItch();
        tenderItch();
        clerkItch();
        obligedItch();
        allAdded();
        atRest();
        actsAreKept();
        actsAreUndone();
        strokeDraws();
        strokeShifts();
        strokeShiftsSorts();
        brookMoves();
        landObliges();
        yearObliges();
        yearIsOneMore();
    }

    private static void cells() {
        says(TERMS, "2 CELLS are 0 to 14, x 0 to 4, y 0 to 2: 5 y and x.");
        for (int y = 0; y <= 2; y++) {
            for (int x = 0; x <= 4; x++) {
                int cell = 5 * y + x;
                MapItch map = with("0,0", with(A15, cell, 'c'), A15, WHOLE, "");
                due("land of " + cell, map.cell(cell, 0), 2);
                due("wrong", map.bits(0), 1 << cell);
            }
        }
        MapItch map = plainCounty();
        due("cell -1", map.cell(-1, 0), BAD);
        due("cell 15", map.cell(15, 0), BAD);
    }

    private static void wrong() {
        says(TERMS, "A CELL is WRONG, if its SORT on the sheet is not that of the land.");
        for (char land = 'a'; land <= 'd'; land++) {
            for (char sheet = 'a'; sheet <= 'd'; sheet++) {
                MapItch x = with("0,0", with(A15, 14, land), with(A15, 14, sheet), WHOLE, "");
                due("land " + land + ", sheet " + sheet, x.bits(0), land == sheet ? 0 : 1 << 14);
                due("how many", x.count(5), land == sheet ? 0 : 1);
            }
        }
        due("all", with("0,0", B15, A15, WHOLE, "").bits(0), 32767);
        due("none", with("0,0", B15, B15, WHOLE, "").bits(0), 0);
    }

    private static void seams() {
        says(TERMS, "It is a SEAM, if one beside it (x or y 1 apart) is of another DISTRICT.");
        for (int lone = 0; lone < 15; lone++) {
            MapItch x = with("0,0", A15, A15, with(WHOLE, lone, 'g'), "");
            int seams = 1 << lone;
            for (int other = 0; other < 15; other++) {
                seams |= areBeside(lone, other) ? 1 << other : 0;
            }
            due("a lone district in " + lone, x.bits(1), seams);
            for (int cell = 0; cell < 15; cell++) {
                due("cell " + cell + ", lone is " + lone, x.cell(cell, 3), seams >> cell & 1);
            }
        }
        due("one district", with("0,0", A15, A15, WHOLE, "").bits(1), 0);
        due("none beside its like", with("0,0", A15, A15, "efgefgefgefgefg", "").bits(1), 32767);
        due("the end of a row is not beside the next one's first",
            with("0,0", A15, A15, "eeeeefeeeeeeeee", "").cell(4, 3), 0);
    }

    private static void feels() {
        says(TERMS, "A surveyor FEELS the CELLS of its DISTRICT, and SEAMS beside one of these.");
        for (int lone = 0; lone < 15; lone++) {
            MapItch x = with("0,0", A15, A15, with(WHOLE, lone, 'f'), "p0,1;o1,1;k2,1;");
            int near = 1 << lone;
            for (int other = 0; other < 15; other++) {
                near |= areBeside(lone, other) ? 1 << other : 0;
            }
            due("all around, and the lone one", x.surveyor(0, 3), 32767);
            due("the lone one, and those beside it", x.surveyor(1, 3), near);
            due("a district without a cell", x.surveyor(2, 3), 0);
        }
        MapItch x = with("0,0", A15, A15, COLUMNS, "p0,1;z1,1;y2,1;");
        int column = 1 | 1 << 5 | 1 << 10;
        due("e", x.surveyor(0, 3), 7 * column);
        due("f", x.surveyor(1, 3), 30 * column);
        due("g", x.surveyor(2, 3), 24 * column);
        x = with("0,0", A15, A15, WHOLE, "p0,1;p1,1;");
        due("one district, felt whole", x.surveyor(0, 3), 32767);
        due("no cell, no seam", x.surveyor(1, 3), 0);
    }

    /** A surveyor of e, and one wrong cell: 0 within e, 1 at its seam, 2 a seam beside it, 3 a seam that is not. */
    private static void itches(String kind, int scale, int within, int atSeam) {
        int[] due = {within, atSeam, atSeam, 0, 0};
        for (int cell = 0; cell <= 4; cell++) {
            MapItch x = with("0,0", with(A15, cell, 'd'), A15, COLUMNS, kind + "0," + scale + ";");
            due(kind + " of scale " + scale + ", cell " + cell, x.surveyor(0, 2), due[cell]);
        }
    }

    private static void plainItch() {
        says(TERMS, "ITCH of a surveyor: of each WRONG CELL that it FEELS: of a plain one SCALE;");
        for (int scale = 1; scale <= 5; scale++) {
            itches("p", scale, scale, scale);
        }
    }

    private static void lazyItch() {
        says(TERMS, "of a lazy one half of that (cut),");
        int[] half = {0, 0, 1, 1, 2, 2};
        for (int scale = 1; scale <= 5; scale++) {
            itches("z", scale, half[scale], half[scale]);
        }
        due("cut for each cell", with("0,0", B15, A15, WHOLE, "z0,1;").surveyor(0, 2), 0);
        due("cut for each cell", with("0,0", B15, A15, WHOLE, "z0,3;").surveyor(0, 2), 15);
    }

    private static void tenderItch() {
        says(TERMS, "of a tender one twice that at a SEAM, else as much;");
        for (int scale = 1; scale <= 5; scale++) {
            itches("y", scale, scale, 2 * scale);
        }
    }

    private static void clerkItch() {
        says(TERMS, "of a clerk 1;");
        for (int scale = 1; scale <= 5; scale++) {
            itches("k", scale, 1, 1);
        }
    }

    private static void obligedItch() {
        says(TERMS, "of an obliged one 1 at a SEAM, else 0;");
        for (int scale = 1; scale <= 5; scale++) {
            itches("o", scale, 0, 1);
        }
    }

    private static void allAdded() {
        says(TERMS, "all these added.");
        MapItch x = with("0,0", B15, A15, COLUMNS, "p0,5;z0,5;y0,5;o0,5;");
        due("plain", x.surveyor(0, 2), 9 * 5);
        due("lazy", x.surveyor(1, 2), 9 * 2);
        due("tender", x.surveyor(2, 2), 3 * 5 + 6 * 10);
        due("obliged", x.surveyor(3, 2), 6);
        due("most there is", with("0,0", B15, A15, "efefefefefefefe", "y0,5;").surveyor(0, 2), 15 * 10);
        due("none wrong", with("0,0", A15, A15, COLUMNS, "y0,5;").surveyor(0, 2), 0);
    }

    private static void atRest() {
        says(TERMS, "Who has no ITCH is AT REST.");
        due("nothing wrong", plainCounty().bits(2), 15);
        due("all itch", with("0,0", B15, A15, COLUMNS, "p0,1;z1,2;y2,3;k0,4;").bits(2), 0);
        due("lazy by 1, and who feels none", with("0,0", B15, A15, WHOLE, "p0,1;z0,1;p1,1;o0,5;").bits(2), 2 | 4 | 8);
        due("nobody", with("0,0", B15, A15, COLUMNS, "").bits(2), 0);
    }

    private static void actsAreKept() {
        says(TERMS, "ACTS (24 at most are kept, of more the oldest is forgotten;");
        for (int many = 22; many <= 40; many++) {
            MapItch x = with("0,0", A15, A15, WHOLE, "");
            for (int k = 0; k < many; k++) {
                x.brook(k % 15);
                due("count(6)", x.count(6), Math.min(k + 1, 24));
            }
            int kept = Math.min(many, 24);
            for (int k = kept - 1; k >= 0; k--) {
                due("undo of " + many, x.undo(), k);
            }
            due("no more", x.undo(), STATE);
            int[] land = new int[15];
            for (int k = 0; k < many - kept; k++) {
                land[k % 15]++;
            }
            for (int cell = 0; cell < 15; cell++) {
                due("cell " + cell + " of " + many, x.cell(cell, 0), land[cell] % 4);
            }
        }
    }

    private static void actsAreUndone() {
        says(TERMS, "each can be undone, the latest first):");
        MapItch x = with("7,3", with(A15, 14, 'b'), A15, COLUMNS, "o2,1;");
        x.stroke(0, 1);
        x.brook(3);
        x.oblige(0);
        x.years(1);
        x.brook(4);
        x.years(2);
        int[] wrong = new int[8];
        int[] year = {2, 1, 1, 0, 0, 0, 0};
        wrong[0] = 1 | 1 << 3 | 1 << 7;
        wrong[1] = wrong[0] | 1 << 4;
        wrong[2] = wrong[0];
        wrong[3] = wrong[0];
        wrong[4] = wrong[0] | 1 << 14;
        wrong[5] = 1 | 1 << 7 | 1 << 14;
        wrong[6] = 1 << 14;
        due("ahead", x.bits(0), wrong[0]);
        due("year", x.count(4), 3);
        for (int k = 0; k <= 6; k++) {
            due("undo " + k, x.undo(), 6 - k);
            due("wrong behind undo " + k, x.bits(0), wrong[k]);
            due("year behind undo " + k, x.count(4), year[k]);
        }
        due("no more", x.undo(), STATE);
        due("done again", x.stroke(0, 1), wrong[5]);
        due("and undone", x.undo(), 0);
    }

    private static void strokeDraws() {
        says(TERMS, "a stroke: a CELL is drawn as a SORT; if SHIFT is not 0,");
        for (int by = 0; by <= 3; by++) {
            for (int cell = 0; cell < 15; cell++) {
                MapItch x = with("0," + by, A15, A15, WHOLE, "");
                due("no shift, by " + by + ", cell " + cell, x.stroke(cell, 3), 1 << cell);
                due("its sort", x.cell(cell, 1), 3);
                due("its land", x.cell(cell, 0), 0);
            }
        }
    }

    private static void strokeShifts() {
        says(TERMS, "the CELL SHIFT further (by 15 what is left over)");
        for (int shift = 1; shift <= 14; shift++) {
            for (int cell = 0; cell < 15; cell++) {
                MapItch x = with(shift + ",2", A15, A15, WHOLE, "");
                int other = cell + shift >= 15 ? cell + shift - 15 : cell + shift;
                due("shift " + shift + ", cell " + cell, x.stroke(cell, 1), 1 << cell | 1 << other);
                due("the cell", x.cell(cell, 1), 1);
                due("the other", x.cell(other, 1), 2);
            }
        }
    }

    private static void strokeShiftsSorts() {
        says(TERMS, "is drawn BY SORTS further (by 4 what is left over), too;");
        int[] further = {0, 1, 2, 3, 0, 1, 2};
        for (int by = 0; by <= 3; by++) {
            for (int sort = 0; sort <= 3; sort++) {
                MapItch x = with("14," + by, A15, with(A15, 14, (char) ('a' + sort)), WHOLE, "");
                x.stroke(0, 1);
                due("sort " + sort + ", by " + by, x.cell(14, 1), further[sort + by]);
                due("the land stays", x.cell(14, 0), 0);
            }
        }
    }

    private static void brookMoves() {
        says(TERMS, "a brook: the land of a CELL is one SORT further (by 4);");
        for (int cell = 0; cell < 15; cell++) {
            MapItch x = with("3,3", A15, with(A15, cell, 'd'), WHOLE, "");
            int[] sorts = {1, 2, 3, 0, 1};
            for (int sort : sorts) {
                due("brook(" + cell + ")", x.brook(cell), sort);
                due("its land", x.cell(cell, 0), sort);
                due("wrong", x.bits(0), sort == 3 ? 0 : 1 << cell);
                due("its sheet", x.cell(cell, 1), 3);
            }
        }
    }

    private static void landObliges() {
        says(TERMS, "the land OBLIGES a surveyor: in each WRONG CELL of its DISTRICT it becomes what is drawn;");
        String sheet = "abcdabcdabcdabc";
        int column = 1 | 1 << 5 | 1 << 10;
        MapItch x = with("0,0", "bcdabcdabcdabcd", sheet, COLUMNS, "p0,1;z1,1;y2,1;k0,1;");
        due("all of e", x.oblige(0), 6);
        due("the rest is wrong", x.bits(0), 28 * column);
        due("none of e is left", x.oblige(3), 0);
        due("all of g", x.oblige(2), 3);
        due("all of f", x.oblige(1), 6);
        for (int cell = 0; cell < 15; cell++) {
            due("land of " + cell, x.cell(cell, 0), cell % 4);
            due("sheet of " + cell, x.cell(cell, 1), cell % 4);
        }
        x = with("0,0", B15, A15, WHOLE, "p1,1;k0,1;");
        due("a district without a cell", x.oblige(0), 0);
        due("all fifteen", x.oblige(1), 15);
    }

    private static void yearObliges() {
        says(TERMS, "a YEAR: the land OBLIGES, for each obliged one in order, in the first WRONG CELL of its DISTRICT alone;");
        MapItch x = with("0,0", B15, A15, WHOLE, "p0,1;o0,1;k0,1;");
        for (int year = 1; year <= 16; year++) {
            int left = year >= 15 ? 0 : 32767 & ~((1 << year) - 1);
            due("year " + year, x.years(1), left);
        }
        due("the land is as drawn", x.cell(14, 0), 0);
        x = with("0,0", B15, A15, COLUMNS, "o2,1;o0,1;o2,1;o0,1;");
        due("two of each", x.years(1), 32767 & ~(3 | 1 << 4 | 1 << 9));
        due("the last of g", x.years(1), 32767 & ~(3 | 1 << 4 | 1 << 9 | 3 << 5 | 1 << 14));
        x = with("0,0", B15, A15, COLUMNS, "p0,1;z1,1;y2,1;k0,1;");
        due("nobody is obliged", x.years(24), 32767);
        x = with("0,0", B15, A15, WHOLE, "o1,1;");
        due("obliged in no cell", x.years(24), 32767);
    }

    private static void yearIsOneMore() {
        says(TERMS, "YEAR is 1 more.");
        MapItch x = with("0,0", B15, A15, COLUMNS, "");
        for (int year = 1; year <= 3; year++) {
            x.years(1);
            due("count(4)", x.count(4), year);
            due("an act", x.count(6), year);
        }
        x.brook(0);
        x.stroke(1, 1);
        due("by years alone", x.count(4), 3);
    }
}
