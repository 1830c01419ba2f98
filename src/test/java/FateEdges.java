/** The sentences on years to come, odds, quarrels and images, each with a test of its own: promises 24 to 29. */
final class FateEdges extends Check {
    private static final int LEAST = Integer.MIN_VALUE, MOST = Integer.MAX_VALUE;
    private static final int COLUMN = 1 | 1 << 5 | 1 << 10;

    static void go() {
        settles();
        steady();
        oddsOfBrooks();
        quarrelsTold();
        quarrelsHeld();
        quarrelsBelowNought();
        draws();
        drawnItch();
        drawnRest();
        settledOf();
        settledBad();
        settledState();
        drawnSoOf();
        drawnSoBad();
        drawnSoState();
        quarrelOf();
        quarrelBad();
        quarrelNull();
        quarrelPlace();
        quarrelBadItem();
        drawnOf();
        drawnBad();
        drawnState();
        imageKept();
        imageBad();
        imageState();
        restores();
        restoreBad();
        restoreState();
    }

    private static void settles() {
        says(TERMS, "SETTLED: in how many YEARS (0 to 40) all are AT REST, nobody else doing anything; NONE.");
        due("nobody", with("0,0", B15, A15, WHOLE, "").settled(0), 0);
        due("none wrong", with("0,0", A15, A15, WHOLE, "p0,1;o0,1;").settled(0), 0);
        for (int wrong = 0; wrong <= 15; wrong++) {
            String land = B15.substring(0, wrong) + A15.substring(wrong);
            due("one by one, " + wrong, with("0,0", land, A15, WHOLE, "p0,1;o0,1;").settled(0), wrong);
            due("by twos, " + wrong, with("0,0", land, A15, WHOLE, "o0,1;o0,1;k0,1;").settled(0), (wrong + 1) / 2);
            due("never, " + wrong, with("0,0", land, A15, WHOLE, "p0,1;k0,1;").settled(0), wrong == 0 ? 0 : NONE);
        }
        // an obliged one rests once the seams of its district, and those beside, are as drawn; those beside never are
        due("seams beside it", with("0,0", with(A15, 2, 'b'), A15, COLUMNS, "o0,1;").settled(0), NONE);
        due("its own seam", with("0,0", with(A15, 1, 'b'), A15, COLUMNS, "o0,1;").settled(0), 1);
        due("within", with("0,0", with(A15, 0, 'b'), A15, COLUMNS, "o0,1;").settled(0), 0);
    }

    private static void steady() {
        says(TERMS, "STEADY: CELLS (bits) that are WRONG then (behind 40 YEARS, if never).");
        due("nobody feels them", with("0,0", B15, A15, WHOLE, "").settled(1), 32767);
        due("all are as drawn", with("0,0", B15, A15, WHOLE, "p0,1;o0,1;").settled(1), 0);
        due("never, nobody obliged", with("0,0", B15, A15, WHOLE, "p0,1;").settled(1), 32767);
        due("never, e is as drawn", with("0,0", B15, A15, COLUMNS, "p0,1;o0,1;").settled(1), 28 * COLUMN);
        // the year ends it: the second wrong cell within e is not as drawn, but nobody feels it
        MapItch x = with("0,0", "abaaabaaaaaaaaa", A15, COLUMNS, "o0,1;");
        due("in one year", x.settled(0), 1);
        due("wrong then", x.settled(1), 1 << 5);
        x = with("0,0", "aaaaabaaaaaaaaa", A15, COLUMNS, "o0,1;");
        due("at once", x.settled(0), 0);
        due("wrong then", x.settled(1), 1 << 5);
    }

    /** In how many of 10 to the n ways it moves by so many sorts, told one by one. */
    private static long ways(int behind, int p, int n) {
        long ways = 0;
        for (int moves = 0; moves < 1 << n; moves++) {
            long product = 1;
            for (int year = 0; year < n; year++) {
                product *= (moves >> year & 1) == 1 ? p : 10 - p;
            }
            ways += Integer.bitCount(moves) % 4 == behind ? product : 0;
        }
        return ways;
    }

    private static long common(long a, long b) {
        return b == 0 ? a : common(b, a % b);
    }

    private static void oddsOfBrooks() {
        says(TERMS, "BROOK by p of 10 (0 to 10) for n YEARS (0 to 6): the land of a CELL is in each one SORT further by that, "
            + "apart: how likely it is then as drawn: a fraction.");
        for (int p = 0; p <= 10; p++) {
            MapItch x = with("0,0", "aaaabbbbccccddd", "abcdabcdabcdabc", WHOLE, "o0,1;");
            MapItch y = with("0,0", "aaaabbbbccccddd", "abcdabcdabcdabc", WHOLE, "o0,1;");
            for (int n = 0; n <= 6; n++) {
                long all = Math.round(Math.pow(10, n));
                for (int cell = 0; cell < 15; cell++) {
                    long ways = ways((cell % 4 - cell / 4 + 4) % 4, p, n);
                    long part = common(all, ways);
                    due("above " + cell + ", " + p + ", " + n, x.drawnSo(cell, p, n, 0), ways / part);
                    due("below " + cell + ", " + p + ", " + n, y.drawnSo(cell, p, n, 1), all / part);
                }
            }
        }
    }

    private static void worth(MapItch x, int[] stakes, long above, long below) {
        String told = stakes[0] + " " + stakes[1] + " " + stakes[2] + " " + stakes[3];
        x.row(0, 2, 4);
        for (int k = 0; k < 4; k++) {
            x.set(0, k, stakes[k]);
        }
        due("above " + told, x.quarrel(0, 0, 0), above);
        due("below " + told, x.quarrel(0, 0, 1), below);
    }

    private static void quarrelsTold() {
        says(TERMS, "QUARREL: a row tells four ITEMS (-20 to 20): what the first of two gains by each of two ways of its, "
            + "each of two of the other one's (0 0, 0 1, 1 0, 1 1), and the other loses:");
        MapItch x = new MapItch();
        worth(x, new int[] {20, 20, -20, -20}, 20, 1);
        worth(x, new int[] {-20, -20, 20, 20}, 20, 1);
        worth(x, new int[] {20, -20, 20, -20}, -20, 1);
        worth(x, new int[] {-20, 20, -20, 20}, -20, 1);
        worth(x, new int[] {1, 2, 3, 4}, 3, 1);
        worth(x, new int[] {4, 3, 2, 1}, 3, 1);
        worth(x, new int[] {1, 3, 2, 4}, 2, 1);
        worth(x, new int[] {0, 1, 2, 0}, 2, 3);
    }

    /** The most, over odds x by which the first goes its way 0, of the least that the other can hold it to. */
    private static long[] held(int[] s) {
        long[][] odds = {{0, 1}, {1, 1}, {s[3] - s[2], s[0] - s[2] - s[1] + s[3]}};
        long[] best = null;
        for (long[] x : odds) {
            long sign = x[1] < 0 ? -1 : 1;
            long above = x[0] * sign, below = x[1] * sign;
            if (below == 0 || above < 0 || above > below) {
                continue;
            }
            long left = above * s[0] + (below - above) * s[2];
            long right = above * s[1] + (below - above) * s[3];
            long least = Math.min(left, right);
            if (best == null || least * best[1] > best[0] * below) {
                best = new long[] {least, below};
            }
        }
        long part = common(Math.abs(best[0]), best[1]);
        return new long[] {best[0] / part, best[1] / part};
    }

    private static void quarrelsHeld() {
        says(TERMS, "what each can hold it to, by odds: a fraction");
        int[] stakes = {-20, -7, -1, 0, 1, 4, 20};
        for (int a : stakes) {
            for (int b : stakes) {
                MapItch x = new MapItch();
                for (int c : stakes) {
                    for (int d : stakes) {
                        int[] told = {a, b, c, d};
                        long[] due = held(told);
                        worth(x, told, due[0], due[1]);
                    }
                }
            }
        }
    }

    private static void quarrelsBelowNought() {
        says(TERMS, "(below 0, too: its upper number is).");
        MapItch x = new MapItch();
        worth(x, new int[] {-2, 0, 0, -1}, -2, 3);
        worth(x, new int[] {-1, -20, -20, -2}, -398, 37);
        worth(x, new int[] {-20, -20, -20, -20}, -20, 1);
        worth(x, new int[] {0, -1, -2, 0}, -2, 3);
        worth(x, new int[] {1, -1, -1, 1}, 0, 1);
    }

    private static void draws() {
        says(TERMS, "YEARS of n (0 to 60) by a SEED (X at first): in each X becomes the rest of (X times 16807) by 2147483647, "
            + "the CELL that is the rest of that by 15 has a brook;");
        long[] known = {16807, 282475249, 1622650073, 984943658, 1144108930, 470211272, 101027544, 1457850878};
        int[] land = new int[15];
        MapItch x = with("0,0", A15, A15, WHOLE, "p0,1;");
        for (int n = 0; n <= known.length; n++) {
            int wrong = 0;
            for (int sort : land) {
                wrong += sort % 4 != 0 ? 1 : 0;
            }
            due("itch behind " + n, x.drawn(n, 1, 0), wrong);
            if (n < known.length) {
                land[(int) (known[n] % 15)]++;
            }
        }
        due("nothing has moved", x.count(5), 0);
    }

    /** What is foretold, held against what is done: the same brooks and years. */
    private static void asDone(String land, String districts, String men, int n, int seed, boolean isItch) {
        MapItch x = with("3,1", land, A15, districts, men);
        int foretold = x.drawn(n, seed, isItch ? 0 : 1);
        long draw = seed;
        int rests = 0;
        int all = (1 << men.length() / 5) - 1;
        for (int year = 0; year < n; year++) {
            draw = draw * 16807L % 2147483647L;
            x.brook((int) (draw % 15));
            x.years(1);
            rests += x.bits(2) == all ? 1 : 0;
        }
        int itch = 0;
        for (int one = 0; one < men.length() / 5; one++) {
            itch += x.surveyor(one, 2);
        }
        due("drawn(" + n + ", " + seed + ") of " + men, foretold, isItch ? itch : rests);
    }

    private static void drawnAsDone(boolean isItch) {
        int[] seeds = {1, 2, 7, 65536, 131072, 999998, 999999};
        String[] men = {"", "p0,1;", "o0,1;k1,2;", "o0,1;o1,1;o2,1;p0,5;", "z0,1;o0,3;y2,4;", "z0,1;"};
        for (int seed : seeds) {
            for (String some : men) {
                for (int n : new int[] {0, 1, 2, 5, 23, 24, 25, 59, 60}) {
                    asDone(A15, COLUMNS, some, n, seed, isItch);
                    asDone("bacadaaabaaacab", WHOLE, some, n, seed, isItch);
                }
            }
        }
    }

    private static void drawnItch() {
        says(TERMS, "then a YEAR as told: ITCH of all then, added;");
        drawnAsDone(true);
    }

    private static void drawnRest() {
        says(TERMS, "in how many of these all were AT REST behind it.");
        drawnAsDone(false);
        due("nobody: all years", with("0,0", B15, A15, WHOLE, "").drawn(60, 5, 1), 60);
        due("no years", with("0,0", A15, A15, WHOLE, "p0,1;").drawn(0, 5, 1), 0);
    }

    private static void settledOf() {
        says(24, "SETTLED (what = 0; NONE), STEADY (1).");
        MapItch x = with("0,0", "bbaabaaaaaaaaaa", A15, COLUMNS, "p0,1;o0,2;");
        due("settled(0)", x.settled(0), 2);
        due("settled(1)", x.settled(1), 1 << 4);
        due("as it is done", x.years(2), 1 << 4);
        due("settled(0)", x.settled(0), 0);
        x.brook(2);
        due("settled(0)", x.settled(0), NONE);
        due("settled(1)", x.settled(1), 1 << 2 | 1 << 4);
        due("no year is gone by it", x.count(4), 2);
    }

    private static void settledBad() {
        says(24, "BAD;");
        for (int what : new int[] {-1, 2, LEAST, MOST}) {
            due("settled(" + what + ")", plainCounty().settled(what), BAD);
        }
    }

    private static void settledState() {
        says(24, "STATE: no COUNTY (ahead of BAD).");
        for (int what = -1; what <= 2; what++) {
            due("settled(" + what + ")", new MapItch().settled(what), STATE);
        }
    }

    private static void drawnSoOf() {
        says(25, "BROOK: above (what = 0), below (1).");
        MapItch x = with("0,0", A15, "abcdaaaaaaaaaaa", WHOLE, "");
        long[][] due = {
            {0, 3, 0, 1, 1}, {1, 3, 0, 0, 1}, {0, 0, 6, 1, 1}, {1, 0, 6, 0, 1}, {2, 10, 6, 1, 1}, {0, 10, 4, 1, 1},
            {3, 10, 6, 0, 1}, {1, 5, 1, 1, 2}, {1, 3, 2, 21, 50}, {0, 5, 4, 1, 8}, {14, 1, 6, 33291, 62500}
        };
        for (long[] one : due) {
            due("above", x.drawnSo((int) one[0], (int) one[1], (int) one[2], 0), one[3]);
            due("below", x.drawnSo((int) one[0], (int) one[1], (int) one[2], 1), one[4]);
        }
        x.brook(1);
        due("of the land as it is", x.drawnSo(1, 0, 6, 0), 1);
    }

    private static void drawnSoBad() {
        says(25, "BAD;");
        MapItch x = plainCounty();
        int[][] bad = {
            {-1, 0, 0, 0}, {15, 0, 0, 0}, {LEAST, 0, 0, 0}, {MOST, 0, 0, 0},
            {0, -1, 0, 0}, {0, 11, 0, 0}, {0, LEAST, 0, 0}, {0, MOST, 0, 0},
            {0, 0, -1, 0}, {0, 0, 7, 0}, {0, 0, LEAST, 0}, {0, 0, MOST, 0},
            {0, 0, 0, -1}, {0, 0, 0, 2}, {0, 0, 0, LEAST}, {0, 0, 0, MOST}
        };
        for (int[] one : bad) {
            String told = one[0] + ", " + one[1] + ", " + one[2] + ", " + one[3];
            due("drawnSo(" + told + ")", x.drawnSo(one[0], one[1], one[2], one[3]), BAD);
        }
        due("at all edges", x.drawnSo(14, 10, 6, 1), 1);
    }

    private static void drawnSoState() {
        says(25, "STATE: no COUNTY (ahead of BAD).");
        MapItch x = new MapItch();
        due("drawnSo(0, 0, 0, 0)", x.drawnSo(0, 0, 0, 0), STATE);
        due("cell 15", x.drawnSo(15, 0, 0, 0), STATE);
        due("p 11", x.drawnSo(0, 11, 0, 0), STATE);
        due("n 7", x.drawnSo(0, 0, 7, 0), STATE);
        due("what 2", x.drawnSo(0, 0, 0, 2), STATE);
    }

    private static void quarrelOf() {
        says(26, "QUARREL, 4 ITEMS of a ROW from i on: above (what = 0), below (1).");
        MapItch x = new MapItch();
        for (int lane = 0; lane <= 2; lane++) {
            fill(x, lane, lane, 2, 0, 0, 1, 2, 3, -20);
            due("above, from 0 on", x.quarrel(lane, 0, 0), 2);
            due("below, from 0 on", x.quarrel(lane, 0, 1), 3);
            due("above, from 3 on", x.quarrel(lane, 3, 0), 13);
            due("below, from 3 on", x.quarrel(lane, 3, 1), 12);
            due("status", x.status(), 0);
        }
    }

    private static void quarrelBad() {
        says(26, "BAD: ROW, what;");
        MapItch x = new MapItch();
        for (int row : new int[] {-1, 8, LEAST, MOST}) {
            due("row " + row, x.quarrel(row, 0, 0), BAD);
        }
        for (int what : new int[] {-1, 2, LEAST, MOST}) {
            due("what " + what + " ahead of NULL", x.quarrel(0, 0, what), BAD);
        }
        x.row(0, 2, 4);
        for (int what : new int[] {-1, 2, LEAST, MOST}) {
            due("what " + what, x.quarrel(0, 0, what), BAD);
            due("what " + what + " ahead of PLACE", x.quarrel(0, 1, what), BAD);
        }
        due("status", x.status(), 0);
    }

    private static void quarrelNull() {
        says(26, "NULL;");
        MapItch x = new MapItch();
        for (int row = 0; row < 8; row++) {
            due("row " + row, x.quarrel(row, 0, 0), NULL);
        }
        due("ahead of PLACE", x.quarrel(0, -1, 1), NULL);
        due("status", x.status(), 1);
    }

    private static void quarrelPlace() {
        says(26, "PLACE;");
        MapItch x = new MapItch();
        fill(x, 0, 2, 99, 99, 99, 99, 99, 99);
        for (int i : new int[] {-1, 3, 6, 7, LEAST, MOST}) {
            due("place " + i + " ahead of a BAD item", x.quarrel(0, i, 0), PLACE);
            due("status", x.status(), 2);
        }
        for (int n = 0; n <= 3; n++) {
            x.row(0, 2, n);
            due("a row of " + n, x.quarrel(0, 0, 0), PLACE);
        }
        x.row(0, 2, 4);
        due("a row of 4", x.quarrel(0, 0, 0), 0);
        x.row(0, 2, 40);
        due("the last four of forty", x.quarrel(0, 36, 0), 0);
        due("beyond the end", x.quarrel(0, 37, 0), PLACE);
    }

    private static void quarrelBadItem() {
        says(26, "then BAD: an ITEM not -20 to 20.");
        MapItch x = new MapItch();
        fill(x, 0, 2, 21, 20, 0, 0, -20, -21);
        due("at the edges", x.quarrel(0, 1, 0), 0);
        due("21", x.quarrel(0, 0, 0), BAD);
        due("-21", x.quarrel(0, 2, 0), BAD);
        for (int k = 0; k < 4; k++) {
            for (int stake : new int[] {21, -21, LEAST, MOST}) {
                x.row(1, 2, 4);
                x.set(1, k, stake);
                due("item " + k + " is " + stake, x.quarrel(1, 0, 0), BAD);
                due("item " + k + " is " + stake + ", below", x.quarrel(1, 0, 1), BAD);
            }
            x.row(1, 2, 4);
            x.set(1, k, 20);
            due("item " + k + " is 20", x.quarrel(1, 0, 1), 1);
        }
        x.drop(5);
        due("BAD leaves status", x.quarrel(0, 0, 0), BAD);
        due("status", x.status(), 1);
    }

    private static void drawnOf() {
        says(27, "YEARS by a SEED (1 to 999999): ITCH (what = 0), how many (1).");
        MapItch x = with("0,0", A15, with(A15, 7, 'b'), WHOLE, "p0,3;k0,1;");
        due("itch as it is", x.drawn(0, 1, 0), 4);
        due("of no years", x.drawn(0, 1, 1), 0);
        due("drawn so behind one", x.drawn(1, 1, 0), 0);
        due("one of one", x.drawn(1, 1, 1), 1);
        due("one of three", x.drawn(3, 1, 1), 1);
        due("two cells, felt by two", x.drawn(3, 1, 0), 8);
        due("the last seed", x.drawn(1, 999999, 1), 999999L * 16807 % 2147483647 % 15 == 7 ? 1 : 0);
    }

    private static void drawnBad() {
        says(27, "BAD;");
        MapItch x = plainCounty();
        int[][] bad = {
            {-1, 1, 0}, {61, 1, 0}, {LEAST, 1, 0}, {MOST, 1, 0}, {1, 0, 0}, {1, 1000000, 0}, {1, -1, 0}, {1, LEAST, 0},
            {1, MOST, 0}, {1, 1, -1}, {1, 1, 2}, {1, 1, LEAST}, {1, 1, MOST}, {0, 0, 0}
        };
        for (int[] one : bad) {
            due("drawn(" + one[0] + ", " + one[1] + ", " + one[2] + ")", x.drawn(one[0], one[1], one[2]), BAD);
        }
        due("no years, the least seed", x.drawn(0, 1, 1), 0);
        due("60 years, the most of seeds", with("0,0", A15, A15, WHOLE, "").drawn(60, 999999, 1), 60);
    }

    private static void drawnState() {
        says(27, "STATE: no COUNTY (ahead of BAD).");
        MapItch x = new MapItch();
        due("drawn(1, 1, 0)", x.drawn(1, 1, 0), STATE);
        due("n 61", x.drawn(61, 1, 0), STATE);
        due("seed 0", x.drawn(1, 0, 0), STATE);
        due("what 2", x.drawn(1, 1, 2), STATE);
    }

    private static void imageKept() {
        says(28, "An IMAGE (0, 1) is kept of the COUNTY: 1.");
        MapItch x = with("1,2", "bbaaaaaaaaaaaaa", A15, COLUMNS, "o0,1;k2,3;");
        due("image(0)", x.image(0), 1);
        x.years(1);
        due("image(1)", x.image(1), 1);
        due("no act", x.count(6), 1);
        due("nothing changes", x.bits(0), 2);
        x.restore(0);
        due("the first", x.bits(0), 3);
        x.restore(1);
        due("the second", x.bits(0), 2);
        x.brook(9);
        due("in place of what was kept", x.image(0), 1);
        x.restore(1);
        x.restore(0);
        due("the latest of it", x.bits(0), 2 | 1 << 9);
    }

    private static void imageBad() {
        says(28, "BAD;");
        for (int k : new int[] {-1, 2, LEAST, MOST}) {
            due("image(" + k + ")", plainCounty().image(k), BAD);
            due("image(" + k + ") ahead of STATE", new MapItch().image(k), BAD);
        }
    }

    private static void imageState() {
        says(28, "STATE: no COUNTY.");
        MapItch x = new MapItch();
        due("image(0)", x.image(0), STATE);
        due("image(1)", x.image(1), STATE);
        due("none was kept", x.restore(0), STATE);
        read(x, "l0");
        due("a text with a fault", x.image(0), STATE);
    }

    private static void restores() {
        says(29, "The COUNTY is as an IMAGE kept it (no ACT can be undone then): 1.");
        MapItch x = with("1,2", "bbaaaaaaaaaaaaa", A15, COLUMNS, "o0,1;k2,3;");
        x.years(1);
        x.image(1);
        x.stroke(3, 3);
        x.brook(0);
        x.years(3);
        read(x, text("0,0", A15, with(A15, 14, 'd'), WHOLE, "z1,5;"));
        due("restore(1)", x.restore(1), 1);
        int[] counts = {0, 2, 1, 2, 1, 1, 0, 0};
        for (int what = 0; what <= 7; what++) {
            due("count(" + what + ")", x.count(what), counts[what]);
        }
        due("undo()", x.undo(), STATE);
        due("wrong", x.bits(0), 2);
        due("seams", x.bits(1), 30 * COLUMN);
        due("at rest", x.bits(2), 2);
        due("surveyors", x.kind(0) * 10 + x.kind(1), 54);
        due("the second", x.surveyor(1, 0) * 10 + x.surveyor(1, 1), 23);
        due("felt", x.surveyor(1, 3), 24 * COLUMN);
        x.brook(9);
        due("once more", x.restore(1), 1);
        due("the image has not moved", x.bits(0), 2);
        due("an act behind it", x.stroke(0, 1), 1 | 2);
        due("is undone", x.undo(), 0);
        due("no more", x.undo(), STATE);
    }

    private static void restoreBad() {
        says(29, "BAD;");
        MapItch x = plainCounty();
        x.image(0);
        for (int k : new int[] {-1, 2, LEAST, MOST}) {
            due("restore(" + k + ")", x.restore(k), BAD);
            due("restore(" + k + ") ahead of STATE", new MapItch().restore(k), BAD);
        }
    }

    private static void restoreState() {
        says(29, "STATE: none was kept.");
        MapItch x = new MapItch();
        due("no county", x.restore(0), STATE);
        read(x, text("0,0", A15, A15, WHOLE, ""));
        x.brook(0);
        due("none", x.restore(0), STATE);
        due("none", x.restore(1), STATE);
        due("all stays", x.count(6), 1);
        x.image(1);
        due("the other one", x.restore(0), STATE);
        due("this one", x.restore(1), 1);
    }
}
