/** Promises 6 to 8: the tape, and how a county is read from it. */
public final class TextTest {
    private static final String HEAD = "l0,0;m" + Check.A15 + ";n" + Check.A15 + ";c" + Check.COLUMNS + ";";

    public static void main(String[] args) {
        feeds();
        reads();
        faultsOfTheLaw();
        faultsOfSortsAndDistricts();
        faultsOfSurveyors();
        allStays();
        Check.end();
    }

    private static void feeds() {
        MapItch x = new MapItch();
        Check.due("-1", x.feed(-1), Check.BAD);
        Check.due("256", x.feed(256), Check.BAD);
        for (int i = 1; i <= 120; i++) {
            Check.due("byte " + i, x.feed(i % 2 * 255), i);
        }
        Check.due("full", x.feed(0), Check.FULL);
        Check.due("BAD ahead of FULL", x.feed(256), Check.BAD);
        Check.due("bytes", x.count(7), 120);
        Check.due("no text", x.county(), -1000100);
        Check.due("empty then", x.count(7), 0);
        Check.due("room again", x.feed('l'), 1);
    }

    private static void reads() {
        MapItch x = new MapItch();
        Check.due("four", Check.read(x, Check.text("14,3", "abcdabcdabcdabc", "dcbadcbadcbadcb", "efgefgefgefgefg",
            "p0,1;z1,5;y02,03;k2,4;")), 4);
        Check.due("surveyors", x.count(1), 4);
        Check.due("shift", x.count(2), 14);
        Check.due("by", x.count(3), 3);
        Check.due("bytes", x.count(7), 0);
        for (int cell = 0; cell < 15; cell++) {
            Check.due("land of " + cell, x.cell(cell, 0), cell % 4);
            Check.due("sheet of " + cell, x.cell(cell, 1), 3 - cell % 4);
            Check.due("district of " + cell, x.cell(cell, 2), cell % 3);
        }
        int[] kinds = {1, 2, 3, 4};
        int[] districts = {0, 1, 2, 2};
        int[] scales = {1, 5, 3, 4};
        for (int one = 0; one < 4; one++) {
            Check.due("kind", x.kind(one), kinds[one]);
            Check.due("district", x.surveyor(one, 0), districts[one]);
            Check.due("scale", x.surveyor(one, 1), scales[one]);
        }
        Check.due("no fault", x.fault(), 0);
        Check.due("none", Check.read(x, "l00,00;m" + Check.A15 + ";n" + Check.A15 + ";c" + Check.COLUMNS + ";"), 0);
        Check.due("in its place", x.count(1) + x.count(2) + x.count(3), 0);
        Check.due("other districts", Check.read(x, HEAD.replace(Check.COLUMNS, "ggggggggggggggg")), 0);
        for (int cell = 0; cell < 15; cell++) {
            Check.due("district of " + cell, x.cell(cell, 2), 2);
        }
        Check.due("an obliged one", Check.read(x, HEAD + "o2,5;"), 1);
        Check.due("kind", x.kind(0), 5);
    }

    private static void fault(String text, int place, int number) {
        MapItch x = new MapItch();
        Check.due("county() of " + text, Check.read(x, text), -1000100 - place);
        Check.due("fault() of " + text, x.fault(), number);
        Check.due("empty behind " + text, x.count(7), 0);
        Check.due("none behind " + text, x.bits(0), Check.STATE);
    }

    private static void faultsOfTheLaw() {
        fault("", 0, 1);
        fault("m", 0, 1);
        fault(" l0,0;", 0, 1);
        fault("L0,0;", 0, 1);
        fault("l", 1, 1);
        fault("l,", 1, 1);
        fault("l14", 3, 1);
        fault("l15,9;", 1, 2);
        fault("l99", 1, 2);
        fault("l000,0;", 1, 1);
        fault("l0000", 1, 1);
        fault("l1 ,0;", 2, 1);
        fault("l0;0;", 2, 1);
        fault("l0,4;", 3, 2);
        fault("l0,003;", 3, 1);
        fault("l0,a;", 3, 1);
        fault("l0,03,", 5, 1);
        fault("l0,3", 4, 1);
        fault("l0,3;", 5, 1);
        fault("l0,3;n", 5, 1);
        fault("l0,3;" + (char) 237, 5, 1);
    }

    private static void faultsOfSortsAndDistricts() {
        String law = "l0,0;";
        fault(law + "maaaaaaaaaaaaaa;", 20, 1);
        fault(law + "maaaaaaaaaaaaaaaa", 21, 1);
        fault(law + "maaaaaaaaaaaaaae;", 20, 1);
        fault(law + "m1aaaaaaaaaaaaaa;", 6, 1);
        fault(law + "m" + Check.A15, 21, 1);
        fault(law + "m" + Check.A15 + ";m", 22, 1);
        fault(law + "m" + Check.A15 + ";nabcde", 27, 1);
        fault(law + "m" + Check.A15 + ";n" + Check.A15 + ";", 39, 1);
        fault(law + "m" + Check.A15 + ";n" + Check.A15 + ";d", 39, 1);
        fault(law + "m" + Check.A15 + ";n" + Check.A15 + ";cefgh", 43, 1);
        fault(law + "m" + Check.A15 + ";n" + Check.A15 + ";ced", 41, 1);
        fault(law + "m" + Check.A15 + ";n" + Check.A15 + ";c" + Check.COLUMNS, 55, 1);
        fault(law + "m" + Check.A15 + ";n" + Check.A15 + ";c" + Check.COLUMNS + "e", 55, 1);
    }

    private static void faultsOfSurveyors() {
        int at = HEAD.length();
        fault(HEAD + "a", at, 1);
        fault(HEAD + ";", at, 1);
        fault(HEAD + "7", at, 1);
        fault(HEAD + "p", at + 1, 1);
        fault(HEAD + "pp", at + 1, 1);
        fault(HEAD + "p3,1;", at + 1, 2);
        fault(HEAD + "p222", at + 1, 1);
        fault(HEAD + "p2;", at + 2, 1);
        fault(HEAD + "p2,0;", at + 3, 2);
        fault(HEAD + "p2,6;", at + 3, 2);
        fault(HEAD + "p2,5", at + 4, 1);
        fault(HEAD + "p2,5,", at + 4, 1);
        fault(HEAD + "p0,1;z3", at + 6, 2);
        String four = HEAD + "p0,1;z0,1;y0,1;k0,1;";
        fault(four + "o0,1;", at + 20, 3);
        fault(four + "p", at + 20, 3);
        fault(four + "p9", at + 20, 3);
        fault(four + "x", at + 20, 1);
        fault(four + ";", at + 20, 1);
    }

    private static void allStays() {
        MapItch x = Check.with("3,1", Check.A15, Check.A15, Check.COLUMNS, "p1,2;");
        x.brook(0);
        x.years(1);
        Check.due("a fault", Check.read(x, "l0,0;mq"), -1000106);
        Check.due("its number", x.fault(), 1);
        Check.due("shift stays", x.count(2), 3);
        Check.due("year stays", x.count(4), 1);
        Check.due("acts stay", x.count(6), 2);
        Check.due("land stays", x.cell(0, 0), 1);
        Check.due("another", Check.read(x, "l0,9"), -1000103);
        Check.due("its number", x.fault(), 2);
        Check.due("one that is read", Check.read(x, HEAD), 0);
        Check.due("the latest fault stays", x.fault(), 2);
        Check.due("year 0", x.count(4), 0);
        Check.due("no acts", x.count(6), 0);
        Check.due("none to undo", x.undo(), Check.STATE);
    }
}
