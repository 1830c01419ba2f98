/** Promises 9 to 16, 28, 29 and 34: what is done, undone, kept and looked at. */
public final class ActsTest {
    private static final String ROUND = "efggeefggeefggg";

    public static void main(String[] args) {
        strokes();
        brooks();
        obliges();
        years();
        undoes();
        images();
        looksAtCells();
        looksAtSurveyors();
        looksAtBits();
        counts();
        Check.end();
    }

    private static void strokes() {
        MapItch x = new MapItch();
        Check.due("no county", x.stroke(15, 4), Check.STATE);
        x = Check.with("7,3", Check.A15, "aaaaaadaaaaaaaa", Check.COLUMNS, "");
        Check.due("cell -1", x.stroke(-1, 0), Check.BAD);
        Check.due("cell 15", x.stroke(15, 0), Check.BAD);
        Check.due("sort -1", x.stroke(0, -1), Check.BAD);
        Check.due("sort 4", x.stroke(0, 4), Check.BAD);
        Check.due("drawn so", x.stroke(0, 0), Check.STATE);
        Check.due("no act", x.count(6), 0);
        Check.due("14 and 6", x.stroke(14, 3), 1 << 14 | 1 << 6);
        Check.due("sort of 14", x.cell(14, 1), 3);
        Check.due("sort of 6: by 4 what is left over", x.cell(6, 1), 2);
        Check.due("one act", x.count(6), 1);
        x = Check.with("0,3", Check.A15, Check.A15, Check.COLUMNS, "");
        Check.due("no shift", x.stroke(2, 1), 4);
        x = Check.with("1,0", Check.A15, Check.A15, Check.COLUMNS, "");
        Check.due("shift by 0", x.stroke(2, 1), 4);
        Check.due("mended", x.stroke(2, 0), 0);
    }

    private static void brooks() {
        MapItch x = new MapItch();
        Check.due("no county", x.brook(15), Check.STATE);
        x = Check.with("7,3", Check.A15, "baaaaaaaaaaaaaa", Check.COLUMNS, "");
        Check.due("cell -1", x.brook(-1), Check.BAD);
        Check.due("cell 15", x.brook(15), Check.BAD);
        for (int k = 1; k <= 5; k++) {
            Check.due("sort then", x.brook(0), k % 4);
            Check.due("wrong", x.bits(0), k % 4 == 1 ? 0 : 1);
        }
        Check.due("sheet stays", x.cell(0, 1), 1);
        Check.due("acts", x.count(6), 5);
        Check.due("the last cell", x.brook(14), 1);
    }

    private static void obliges() {
        MapItch x = new MapItch();
        Check.due("no county", x.oblige(0), Check.BAD);
        x = Check.with("0,0", "babbbbbbbbbbbbb", "daaaaaaaaaaaaaa", Check.COLUMNS, "p0,1;k1,1;");
        Check.due("-1", x.oblige(-1), Check.BAD);
        Check.due("2", x.oblige(2), Check.BAD);
        Check.due("five of six", x.oblige(0), 5);
        Check.due("land is as drawn", x.cell(0, 0), 3);
        Check.due("others are not", x.bits(0), 32767 & ~(3 | 3 << 5 | 3 << 10));
        Check.due("none", x.oblige(0), 0);
        Check.due("an act each", x.count(6), 2);
        Check.due("no seam of another district", x.oblige(1), 6);
        Check.due("left", x.bits(0), 1 << 4 | 1 << 9 | 1 << 14);
    }

    private static void years() {
        MapItch x = new MapItch();
        Check.due("no county", x.years(0), Check.STATE);
        x = Check.with("0,0", "bbbbbbbbbbbbbbb", Check.A15, Check.COLUMNS, "o0,1;p1,1;o0,1;o2,1;");
        Check.due("0", x.years(0), Check.BAD);
        Check.due("25", x.years(25), Check.BAD);
        Check.due("two of one district in order, one of another", x.years(1), 32767 & ~(3 | 1 << 4));
        Check.due("year", x.count(4), 1);
        Check.due("acts", x.count(6), 1);
        Check.due("two more", x.years(2), 4 | 8 | 4 << 5 | 8 << 5 | 4 << 10 | 8 << 10);
        Check.due("an act each", x.count(6), 3);
        for (int k = 0; k < 41; k++) {
            x.years(24);
        }
        Check.due("987", x.count(4), 987);
        Check.due("more than 999", x.years(13), Check.FULL);
        Check.due("BAD ahead of FULL", x.years(25), Check.BAD);
        Check.due("still 987", x.count(4), 987);
        x.years(12);
        Check.due("999", x.count(4), 999);
        Check.due("no more", x.years(1), Check.FULL);
        x.undo();
        Check.due("998", x.count(4), 998);
        Check.due("one more", x.years(1), x.bits(0));
    }

    private static void undoes() {
        MapItch x = new MapItch();
        Check.due("no county", x.undo(), Check.STATE);
        x = Check.with("1,1", "bbaaaaaaaaaaaaa", Check.A15, Check.COLUMNS, "o0,1;");
        x.stroke(0, 2);
        x.brook(5);
        x.years(1);
        x.oblige(0);
        Check.due("three", x.undo(), 3);
        Check.due("not obliged", x.bits(0), 1 << 5);
        Check.due("two", x.undo(), 2);
        Check.due("year 0", x.count(4), 0);
        Check.due("before the year", x.bits(0), 1 | 1 << 5);
        Check.due("one", x.undo(), 1);
        Check.due("before the brook", x.cell(5, 0), 0);
        Check.due("none", x.undo(), 0);
        Check.due("before the stroke", x.cell(0, 1) + x.cell(1, 1), 0);
        Check.due("no more", x.undo(), Check.STATE);
        for (int k = 0; k < 26; k++) {
            x.brook(k % 15);
        }
        Check.due("24 are kept", x.count(6), 24);
        for (int k = 23; k >= 0; k--) {
            Check.due("yet", x.undo(), k);
        }
        Check.due("none is left", x.undo(), Check.STATE);
        Check.due("the oldest two are forgotten", x.cell(0, 0) * 4 + x.cell(1, 0), 2 * 4 + 2);
        Check.due("the third was not", x.cell(2, 0), 0);
    }

    private static void images() {
        MapItch x = new MapItch();
        Check.due("BAD", x.image(-1), Check.BAD);
        Check.due("BAD ahead of STATE", x.image(2), Check.BAD);
        Check.due("no county", x.image(1), Check.STATE);
        Check.due("BAD", x.restore(2), Check.BAD);
        Check.due("none", x.restore(1), Check.STATE);
        x = Check.with("1,2", "bbaaaaaaaaaaaaa", Check.A15, Check.COLUMNS, "o0,1;k2,3;");
        x.years(1);
        Check.due("kept", x.image(1), 1);
        Check.due("an image is no act", x.count(6), 1);
        Check.due("the other was not", x.restore(0), Check.STATE);
        x.stroke(3, 3);
        x.brook(0);
        x.years(3);
        Check.read(x, Check.text("0,0", Check.A15, "aaaaaaaaaaaaaad", ROUND, "z1,5;"));
        Check.due("another image", x.image(0), 1);
        Check.due("as it was", x.restore(1), 1);
        Check.due("no act", x.count(6), 0);
        Check.due("none to undo", x.undo(), Check.STATE);
        Check.due("year", x.count(4), 1);
        Check.due("wrong", x.bits(0), 2);
        Check.due("seams", x.bits(1), 30 | 30 << 5 | 30 << 10);
        Check.due("law", x.count(2) * 10 + x.count(3), 12);
        Check.due("surveyors", x.kind(0) * 10 + x.kind(1), 54);
        Check.due("its scale", x.surveyor(1, 1), 3);
        x.brook(9);
        Check.due("again", x.restore(1), 1);
        Check.due("the image has not moved", x.bits(0), 2);
        Check.due("the other", x.restore(0), 1);
        Check.due("its wrong cell", x.bits(0), 1 << 14);
        Check.due("its surveyors", x.count(1), 1);
        Check.due("its itch", x.surveyor(0, 2), 0);
    }

    private static void looksAtCells() {
        MapItch x = new MapItch();
        Check.due("no county", x.cell(15, 5), Check.STATE);
        x = Check.with("0,0", "abcdabcdabcdabc", "bcdabcdabcdabcd", ROUND, "p0,1;z1,1;y2,1;o1,1;");
        Check.due("cell -1", x.cell(-1, 0), Check.BAD);
        Check.due("cell 15", x.cell(15, 0), Check.BAD);
        Check.due("what -1", x.cell(0, -1), Check.BAD);
        Check.due("what 5", x.cell(0, 5), Check.BAD);
        for (int cell = 0; cell < 15; cell++) {
            Check.due("land", x.cell(cell, 0), cell % 4);
            Check.due("sheet", x.cell(cell, 1), (cell + 1) % 4);
            Check.due("district", x.cell(cell, 2), ROUND.charAt(cell) - 'e');
            Check.due("a seam but for one", x.cell(cell, 3), cell == 13 ? 0 : 1);
        }
        Check.due("e beside f", x.cell(0, 4), 1 | 2 | 8);
        Check.due("f beside e and g", x.cell(1, 4), 15);
        Check.due("g beside f", x.cell(2, 4), 2 | 4 | 8);
        Check.due("g beside e", x.cell(3, 4), 1 | 4);
        Check.due("g within", x.cell(13, 4), 4);
        Check.due("the end of a row is not beside the next one's first", x.cell(4, 4), 1 | 4);
    }

    private static void looksAtSurveyors() {
        MapItch x = new MapItch();
        Check.due("no county", x.surveyor(0, 0), Check.BAD);
        // of district e (columns 0 and 1) three cells are wrong within, three at seams; of f three at seams beside it
        x = Check.with("0,0", "bbbbbbbbbbbbbbb", Check.A15, Check.COLUMNS, "p0,3;z0,5;y0,4;k0,5;");
        Check.due("-1", x.surveyor(-1, 0), Check.BAD);
        Check.due("4", x.surveyor(4, 0), Check.BAD);
        Check.due("what -1", x.surveyor(0, -1), Check.BAD);
        Check.due("what 4", x.surveyor(0, 4), Check.BAD);
        Check.due("district", x.surveyor(2, 0), 0);
        Check.due("scale", x.surveyor(1, 1), 5);
        Check.due("plain", x.surveyor(0, 2), 27);
        Check.due("lazy", x.surveyor(1, 2), 18);
        Check.due("tender", x.surveyor(2, 2), 3 * 4 + 6 * 8);
        Check.due("clerk", x.surveyor(3, 2), 9);
        Check.due("felt", x.surveyor(0, 3), 7 | 7 << 5 | 7 << 10);
        x = Check.with("0,0", "bbbbbbbbbbbbbbb", Check.A15, Check.COLUMNS, "o0,5;z0,1;o2,1;");
        Check.due("obliged", x.surveyor(0, 2), 6);
        Check.due("lazy by 1", x.surveyor(1, 2), 0);
        Check.due("felt by the last", x.surveyor(2, 3), 24 | 24 << 5 | 24 << 10);
        Check.due("2", x.surveyor(3, 0), Check.BAD);
    }

    private static void looksAtBits() {
        MapItch x = new MapItch();
        Check.due("no county", x.bits(3), Check.STATE);
        x = Check.with("0,0", "baaaaaaaaaaaaaa", Check.A15, Check.COLUMNS, "p0,1;z0,1;o0,5;k1,1;");
        Check.due("-1", x.bits(-1), Check.BAD);
        Check.due("3", x.bits(3), Check.BAD);
        Check.due("wrong", x.bits(0), 1);
        Check.due("seams", x.bits(1), 30 | 30 << 5 | 30 << 10);
        Check.due("at rest", x.bits(2), 2 | 4 | 8);
        x = Check.with("0,0", "baaaaaaaaaaaaaa", Check.A15, Check.COLUMNS, "z0,1;p0,1;");
        Check.due("the first", x.bits(2), 1);
        x = Check.with("0,0", Check.A15, Check.A15, "eeeeeeeeeeeeeee", "");
        Check.due("no seams", x.bits(1), 0);
        Check.due("nobody", x.bits(2), 0);
    }

    private static void counts() {
        MapItch x = Check.with("9,2", "abaaaaaaaaaaaab", Check.A15, Check.COLUMNS, "p0,1;k1,1;");
        x.row(3, 0, 4);
        x.feed('l');
        x.brook(0);
        x.years(2);
        int[] due = {1, 2, 9, 2, 2, 3, 3, 1};
        for (int what = 0; what < 8; what++) {
            Check.due("count(" + what + ")", x.count(what), due[what]);
        }
        Check.due("count(-1)", x.count(-1), Check.BAD);
        Check.due("count(8)", x.count(8), Check.BAD);
    }
}
