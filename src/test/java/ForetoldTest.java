/** Promises 17 to 27: what is foretold. */
public final class ForetoldTest {
    private static final String WHOLE = "eeeeeeeeeeeeeee";

    public static void main(String[] args) {
        refusals();
        strokes();
        unfelt();
        each();
        fits();
        scratches();
        men();
        signs();
        settles();
        brooks();
        quarrels();
        draws();
        Check.end();
    }

    private static void refusals() {
        MapItch x = new MapItch();
        Check.due("strokes", x.strokes(2, 2), Check.STATE);
        Check.due("unfelt", x.unfelt(), Check.STATE);
        Check.due("each", x.each(8, 0), Check.STATE);
        Check.due("fit", x.fit(8, 0, 2), Check.STATE);
        Check.due("scratch", x.scratch(8, 0), Check.STATE);
        Check.due("men", x.men(2), Check.STATE);
        Check.due("sign", x.sign(4), Check.STATE);
        Check.due("settled", x.settled(2), Check.STATE);
        Check.due("drawnSo", x.drawnSo(15, 11, 7, 2), Check.STATE);
        Check.due("drawn", x.drawn(61, 0, 2), Check.STATE);
        x = Check.with("0,0", Check.A15, Check.A15, Check.COLUMNS, "p0,1;k0,1;");
        int[][] bad = {{-1, 0}, {2, 0}, {0, -2}, {0, 2}};
        for (int[] one : bad) {
            Check.due("strokes", x.strokes(one[0], one[1]), Check.BAD);
        }
        for (int what = -1; what <= 2; what += 3) {
            Check.due("fit", x.fit(0, 0, what), Check.BAD);
            Check.due("men", x.men(what), Check.BAD);
            Check.due("settled", x.settled(what), Check.BAD);
            Check.due("drawnSo", x.drawnSo(0, 0, 0, what), Check.BAD);
            Check.due("quarrel", x.quarrel(0, 0, what), Check.BAD);
            Check.due("drawn", x.drawn(1, 1, what), Check.BAD);
        }
        for (int row = -1; row <= 8; row += 9) {
            Check.due("each", x.each(row, 0), Check.BAD);
            Check.due("fit", x.fit(row, 0, 0), Check.BAD);
            Check.due("scratch", x.scratch(row, 0), Check.BAD);
            Check.due("quarrel", x.quarrel(row, 0, 0), Check.BAD);
        }
        Check.due("sign", x.sign(-1), Check.BAD);
        Check.due("sign", x.sign(4), Check.BAD);
        int[][] badBrooks = {{-1, 0, 0}, {15, 0, 0}, {0, -1, 0}, {0, 11, 0}, {0, 0, -1}, {0, 0, 7}};
        for (int[] one : badBrooks) {
            Check.due("drawnSo", x.drawnSo(one[0], one[1], one[2], 0), Check.BAD);
        }
        int[][] badDraws = {{-1, 1}, {61, 1}, {1, 0}, {1, 1000000}, {1, -5}};
        for (int[] one : badDraws) {
            Check.due("drawn", x.drawn(one[0], one[1], 0), Check.BAD);
        }
        refusalsOfRows(x);
    }

    private static void refusalsOfRows(MapItch x) {
        Check.due("each", x.each(0, 0), Check.NULL);
        Check.due("fit", x.fit(0, 0, 0), Check.NULL);
        Check.due("scratch", x.scratch(0, 0), Check.NULL);
        Check.due("quarrel", x.quarrel(0, 0, 0), Check.NULL);
        Check.due("status", x.status(), 1);
        x.row(0, 1, 3);
        for (int i = -1; i <= 2; i += 3) {
            Check.due("each", x.each(0, i), Check.PLACE);
            Check.due("fit", x.fit(0, i, 1), Check.PLACE);
            Check.due("scratch", x.scratch(0, i), Check.PLACE);
            Check.due("status", x.status(), 2);
        }
        Check.due("each, far", x.each(0, Integer.MAX_VALUE), Check.PLACE);
        Check.due("quarrel", x.quarrel(0, 0, 0), Check.PLACE);
        Check.due("each at the end", x.each(0, 1), 24 | 24 << 5 | 24 << 10);
        Check.due("status", x.status(), 0);
    }

    private static void plan(MapItch x, int isTrue, int many, int first, int second) {
        Check.due("how many (" + isTrue + ")", x.strokes(isTrue, -1), many);
        Check.due("the first (" + isTrue + ")", x.strokes(isTrue, 0), first);
        Check.due("the second (" + isTrue + ")", x.strokes(isTrue, 1), second);
    }

    private static void strokes() {
        MapItch x = Check.with("0,0", Check.A15, Check.A15, WHOLE, "p0,1;");
        plan(x, 0, 0, Check.NONE, Check.NONE);
        plan(x, 1, 0, Check.NONE, Check.NONE);
        x = Check.with("0,0", "aaaaaaaaaaaaaca", Check.A15, WHOLE, "p0,1;");
        plan(x, 0, 1, 13 * 4 + 2, Check.NONE);
        plan(x, 1, 1, 13 * 4 + 2, Check.NONE);
        x = Check.with("0,0", "aaabaaaaaaaaaca", Check.A15, WHOLE, "p0,1;");
        plan(x, 0, 2, 3 * 4 + 1, 13 * 4 + 2);
        x = Check.with("0,0", "aaabaaaabaaaaca", Check.A15, WHOLE, "p0,1;");
        plan(x, 0, Check.NONE, Check.NONE, Check.NONE);
        x = Check.with("0,0", Check.A15, "baaaaaaaaaaaaaa", WHOLE, "p0,1;");
        plan(x, 0, 1, 0, Check.NONE);
        x = Check.with("0,0", Check.A15, "baaaaaaaaaaaaab", WHOLE, "p0,1;");
        plan(x, 0, 2, 0, 14 * 4);
        // all rest though two cells are wrong: an obliged one feels nothing within
        x = Check.with("0,0", "aaabaaaaaaaaaca", Check.A15, WHOLE, "o0,1;");
        plan(x, 0, 0, Check.NONE, Check.NONE);
        plan(x, 1, 2, 3 * 4 + 1, 13 * 4 + 2);
        // the shift mends the second: 2 by the stroke, 5 by one sort further
        x = Check.with("3,1", "aadaabaaaaaaaaa", Check.A15, WHOLE, "p0,1;");
        plan(x, 0, 1, 2 * 4 + 3, Check.NONE);
        // the second stroke sets right what the first one shifted: drawn twice, each time as another sort
        x = Check.with("3,2", "aaaabaaaaaaaaaa", Check.A15, WHOLE, "p0,1;");
        plan(x, 1, 2, 4 * 4 + 2, 4 * 4 + 1);
        x = Check.with("3,1", "aaaabaaaaaaaaaa", Check.A15, WHOLE, "p0,1;");
        plan(x, 1, Check.NONE, Check.NONE, Check.NONE);
        Check.due("nothing changes", x.count(5) * 10 + x.count(6), 10);
    }

    private static void unfelt() {
        MapItch x = Check.with("0,0", "bbbbbbbbbbbbbbb", Check.A15, Check.COLUMNS, "z0,1;o2,3;");
        Check.due("lazy by 1 feels no itch, an obliged one at seams alone", x.unfelt(), 32767 & ~(24 | 24 << 5 | 24 << 10));
        x = Check.with("0,0", "bbbbbbbbbbbbbbb", Check.A15, Check.COLUMNS, "o0,3;");
        Check.due("within its district it has none", x.unfelt(), 32767 & ~(6 | 6 << 5 | 6 << 10));
        x = Check.with("0,0", "bbbbbbbbbbbbbbb", Check.A15, Check.COLUMNS, "k2,3;");
        Check.due("far from its district", x.unfelt(), 7 | 7 << 5 | 7 << 10);
        x = Check.with("0,0", "abbbbbbbbbbbbbb", Check.A15, Check.COLUMNS, "");
        Check.due("nobody", x.unfelt(), 32766);
        x = Check.with("0,0", "bbbbbbbbbbbbbbb", Check.A15, WHOLE, "z0,2;");
        Check.due("all", x.unfelt(), 0);
    }

    private static void each() {
        MapItch x = Check.with("0,0", "bbbbbbbbbbbbbbb", Check.A15, Check.COLUMNS, "y0,2;p1,3;");
        Check.fill(x, 0, 0, 9, 2, 0, 4, 3, 0, 3, 0, 0);
        Check.due("within e", x.each(0, 1), 1 | 1 << 5 | 1 << 10);
        Check.due("between e and f", x.each(0, 3), 6 | 6 << 5 | 6 << 10);
        Check.due("none", x.each(0, 0), 0);
        Check.due("f and beside it", x.each(0, 5), 24 | 24 << 5 | 24 << 10);
        Check.due("nobody would itch", x.each(0, 7), 0);
        x = Check.with("0,0", Check.A15, Check.A15, Check.COLUMNS, "");
        x.row(0, 2, 0);
        Check.due("nobody", x.each(0, 0), 32767);
        Check.due("beyond the end", x.each(0, 1), Check.PLACE);
    }

    private static void fits() {
        // by 1 each of three within e, by 2 each of six at its seam, 0 each of six others
        MapItch x = Check.with("0,0", Check.A15, Check.A15, Check.COLUMNS, "y0,1;");
        Check.fill(x, 0, 2, 0, 1, 2, 3, 4, 5, -1);
        int[] many = {1 + 6 + 15, 3 + 18, 3 + 6 + 36, 18, 15, 0, 0};
        int[] best = {0, 1, 2, 3, 6, Check.NONE, Check.NONE};
        for (int i = 0; i < 7; i++) {
            Check.due("how many " + i, x.fit(0, i, 0), many[i]);
            Check.due("which " + i, x.fit(0, i, 1), best[i]);
        }
        Check.due("NONE is no finding", x.status(), 0);
        x = Check.with("0,0", Check.A15, Check.A15, "efefefefefefefe", "p0,1;");
        Check.fill(x, 0, 2, 1, 2);
        Check.due("the fewest first", x.fit(0, 0, 1), 1);
        // 1 (f beside g) and 4 (f beside e) itch as 0 (f) and 8 (f beside both) do, and have the least bits
        x = Check.with("0,0", Check.A15, Check.A15, "ffffffggfeffffe", "k0,1;k1,1;k2,1;");
        Check.fill(x, 0, 2, 1, 2, 1);
        Check.due("the least bits, not the least cell", x.fit(0, 0, 1), 1 << 1 | 1 << 4);
        Check.due("of so many", x.fit(0, 0, 0), 31);
        x = Check.with("0,0", Check.A15, Check.A15, "efefefefefefefe", "p0,1;");
        Check.fill(x, 0, 2, 1, 2);
        Check.due("of like ones the least", x.fit(0, 1, 1), 3);
    }

    private static void scratches() {
        MapItch x = Check.with("0,0", Check.A15, Check.A15, Check.COLUMNS, "y0,1;");
        Check.fill(x, 0, 2, 0, 1, 2, 3, 4, 5);
        // 0: 22 sets, each cell beyond in 6 of them; 1: 21 sets, each within in 7; 3: 18 sets, each within in 6;
        // 2: 45 sets, those within in 2 with another, those at seams in 7; 4: 15 sets, each at a seam in 5
        int[] due = {3, 0, 1, 0, 1, Check.NONE};
        for (int i = 0; i < due.length; i++) {
            Check.due("scratch " + i, x.scratch(0, i), due[i]);
        }
        // cell 0 alone fits: it is as far from half as all others are
        x = Check.with("0,0", Check.A15, Check.A15, "eegggeggggggggg", "y0,1;k2,1;");
        Check.fill(x, 0, 2, 1, 0);
        Check.due("one fits", x.fit(0, 0, 0), 1);
        Check.due("the least of like ones", x.scratch(0, 0), 0);
        Check.due("status", x.status(), 0);
    }

    private static void men() {
        MapItch x = Check.with("0,0", Check.A15, Check.A15, WHOLE, "p0,1;");
        Check.due("no seams", x.men(0), 0);
        Check.due("nobody", x.men(1), 0);
        x = Check.with("0,0", Check.A15, Check.A15, Check.COLUMNS, "p0,1;z0,1;");
        Check.due("none", x.men(0), Check.NONE);
        Check.due("none", x.men(1), Check.NONE);
        x = Check.with("0,0", Check.A15, Check.A15, Check.COLUMNS, "p0,1;k2,1;o0,1;k2,1;");
        Check.due("two", x.men(0), 2);
        Check.due("the least", x.men(1), 3);
        x = Check.with("0,0", Check.A15, Check.A15, Check.COLUMNS, "p0,1;k2,1;o0,1;k1,1;");
        Check.due("one", x.men(0), 1);
        Check.due("who is not the least by bits of more", x.men(1), 8);
        x = Check.with("0,0", Check.A15, Check.A15, "efgggfggggggggg", "p2,1;");
        Check.due("the first cell is felt by nobody", x.men(0), Check.NONE);
        x = Check.with("0,0", Check.A15, Check.A15, "efgggfggggggggg", "p2,1;k2,1;p1,1;");
        Check.due("f feels all", x.men(1), 4);
    }

    private static void signs() {
        MapItch x = Check.with("0,0", "baaaaaaaaaaaaaa", Check.A15, Check.COLUMNS, "p0,3;k0,1;p2,5;y0,1;");
        int[] due = {2, 1, 3, 0};
        for (int k = 0; k < 4; k++) {
            Check.due("sign " + k, x.sign(k), due[k]);
        }
        x = Check.with("0,0", "baaaaaaaaaaaaaa", Check.A15, Check.COLUMNS, "p0,3;k0,1;");
        Check.due("sign 0", x.sign(0), 1);
        Check.due("sign 1", x.sign(1), 0);
        Check.due("sign 2", x.sign(2), Check.NONE);
        x = Check.with("0,0", "baaaaaaaaaaaaaa", Check.A15, Check.COLUMNS, "p0,1;k0,1;");
        Check.due("of like ones the first", x.sign(0), 0);
        Check.due("and the next", x.sign(1), 1);
    }

    private static void settles() {
        MapItch x = Check.with("0,0", Check.A15, Check.A15, Check.COLUMNS, "p0,3;");
        Check.due("at rest", x.settled(0), 0);
        Check.due("steady", x.settled(1), 0);
        // the clerk rests once the 4th wrong cell of f is gone; that of g stays wrong, and is felt by nobody
        x = Check.with("0,0", "aabbaaabbaaaaab", Check.A15, "eeffeeeffeeeeeg", "k1,3;o1,1;");
        Check.due("four years", x.settled(0), 4);
        Check.due("steady", x.settled(1), 1 << 14);
        Check.due("nothing changes", x.count(5) * 100 + x.count(4) * 10 + x.count(6), 500);
        x.years(3);
        Check.due("one year more", x.settled(0), 1);
        x = Check.with("0,0", "babaaaaaaaaaaaa", Check.A15, Check.COLUMNS, "p1,3;o0,1;");
        Check.due("never", x.settled(0), Check.NONE);
        Check.due("behind 40", x.settled(1), 4);
    }

    private static void odds(MapItch x, int cell, int p, int n, long above, long below) {
        Check.due("above " + cell + " " + p + " " + n, x.drawnSo(cell, p, n, 0), above);
        Check.due("below " + cell + " " + p + " " + n, x.drawnSo(cell, p, n, 1), below);
    }

    private static void brooks() {
        MapItch x = Check.with("0,0", "aaaadaaaaaaaaaa", "abcdaaaaaaaaaaa", WHOLE, "o0,1;");
        odds(x, 0, 3, 0, 1, 1);
        odds(x, 1, 3, 0, 0, 1);
        odds(x, 0, 0, 6, 1, 1);
        odds(x, 1, 0, 6, 0, 1);
        odds(x, 2, 10, 6, 1, 1);
        odds(x, 0, 10, 4, 1, 1);
        odds(x, 0, 10, 5, 0, 1);
        odds(x, 1, 5, 1, 1, 2);
        odds(x, 1, 3, 2, 21, 50);
        odds(x, 3, 2, 2, 0, 1);
        odds(x, 0, 5, 4, 1, 8);
        odds(x, 2, 5, 6, 1, 4);
        odds(x, 1, 1, 6, (6 * 59049 + 6 * 9) / 4, 250000);
        odds(x, 4, 4, 1, 2, 5);
        Check.due("nothing changes", x.count(6), 0);
    }

    private static void worth(MapItch x, int a, int b, int c, int d, int above, int below) {
        Check.fill(x, 2, 1, 99, a, b, c, d);
        Check.due("above " + a + " " + b + " " + c + " " + d, x.quarrel(2, 1, 0), above);
        Check.due("below " + a + " " + b + " " + c + " " + d, x.quarrel(2, 1, 1), below);
    }

    private static void quarrels() {
        MapItch x = new MapItch();
        worth(x, 1, 2, 3, 4, 3, 1);
        worth(x, 4, 3, 2, 1, 3, 1);
        worth(x, -1, -2, -3, -4, -2, 1);
        worth(x, 0, 0, 0, 0, 0, 1);
        worth(x, 1, -1, -1, 1, 0, 1);
        worth(x, -1, 1, 1, -1, 0, 1);
        worth(x, 2, 0, 0, 1, 2, 3);
        worth(x, 0, 1, 2, 0, 2, 3);
        worth(x, -2, 0, 0, -1, -2, 3);
        worth(x, 20, -20, -20, 20, 0, 1);
        worth(x, 4, 0, 0, 4, 2, 1);
        worth(x, 20, -20, -20, -20, -20, 1);
        worth(x, 5, 5, 5, 9, 5, 1);
        Check.fill(x, 2, 2, 20, 0, 0, -20, -21);
        Check.due("at the edges", x.quarrel(2, 0, 0), 0);
        Check.due("beyond", x.quarrel(2, 1, 0), Check.BAD);
        Check.due("PLACE ahead of a BAD item", x.quarrel(2, 2, 0), Check.PLACE);
        Check.due("status", x.status(), 2);
    }

    private static void draws() {
        // 16807 by 15 leaves 7; 282475249 leaves 4; 1622650073 leaves 8; 984943658 leaves 8 (X by 1 at first)
        MapItch x = Check.with("0,0", Check.A15, Check.A15, WHOLE, "p0,3;");
        int[] itch = {0, 3, 6, 9, 9};
        for (int n = 0; n <= 4; n++) {
            Check.due("itch behind " + n, x.drawn(n, 1, 0), itch[n]);
            Check.due("at rest behind " + n, x.drawn(n, 1, 1), 0);
        }
        x = Check.with("0,0", Check.A15, "aaaaaaabaaaaaaa", WHOLE, "p0,3;k0,1;");
        Check.due("itch of all at first", x.drawn(0, 1, 0), 4);
        Check.due("drawn so", x.drawn(1, 1, 0), 0);
        Check.due("one year of three", x.drawn(3, 1, 1), 1);
        Check.due("two wrong, felt by two", x.drawn(3, 1, 0), 8);
        x = Check.with("0,0", Check.A15, Check.A15, WHOLE, "p0,3;o0,1;");
        Check.due("it obliges each year", x.drawn(60, 999999, 1), 60);
        Check.due("all rest", x.drawn(60, 999999, 0), 0);
        Check.due("nothing changes", x.count(5) + x.count(4) + x.count(6), 0);
    }
}
