/** Counts and prints answers that are not the ones that are due; tests of many answers stand below it. */
abstract class Check {
    static final int NONE = -1000000, BAD = -1000001, STATE = -1000002, FULL = -1000003;
    static final int NULL = -1000011, PLACE = -1000012, KIND = -1000013, SIZE = -1000014, STORE = -1000015;

    static final String A15 = "aaaaaaaaaaaaaaa";
    static final String B15 = "bbbbbbbbbbbbbbb";
    static final String COLUMNS = "eeffgeeffgeeffg";
    static final String WHOLE = "eeeeeeeeeeeeeee";
    static final String TERMS = "Terms";

    private static int wrong = 0;
    private static int asked = 0;
    private static String saying = "";

    /** The next answers hold to these words of a section of the document. */
    static void says(String section, String words) {
        saying = section + ", '" + words + "': ";
        if (Document.isThere() && !Document.quote(section, words)) {
            wrong++;
            System.out.println(saying + "the document does not say so");
        }
    }

    static void says(int promise, String words) {
        says("Promise " + promise, words);
    }

    static void due(String call, long got, long want) {
        asked++;
        if (got != want) {
            wrong++;
            System.out.println(saying + call + " answered " + got + ", due is " + want);
        }
    }

    static void feed(MapItch x, String text) {
        for (int i = 0; i < text.length(); i++) {
            x.feed(text.charAt(i));
        }
    }

    static int read(MapItch x, String text) {
        feed(x, text);
        return x.county();
    }

    static String text(String law, String land, String sheet, String districts, String surveyors) {
        return "l" + law + ";m" + land + ";n" + sheet + ";c" + districts + ";" + surveyors;
    }

    static MapItch with(String law, String land, String sheet, String districts, String surveyors) {
        MapItch x = new MapItch();
        int men = surveyors.length() / 5;
        due("county() of " + surveyors, read(x, text(law, land, sheet, districts, surveyors)), men);
        return x;
    }

    static void fill(MapItch x, int row, int lane, int... items) {
        due("row", x.row(row, lane, items.length), items.length);
        for (int i = 0; i < items.length; i++) {
            due("set", x.set(row, i, items[i]), items[i]);
        }
    }

    static MapItch plainCounty() {
        return with("0,0", A15, A15, COLUMNS, "p0,1;z1,2;y2,3;k0,4;");
    }

    /** What an item of a row is (-20 to 20): a quarrel in which all four items are the same has that worth. */
    static int item(MapItch x, int row, int lane, int i) {
        x.row(7, lane, 4);
        for (int k = 0; k < 4; k++) {
            x.copy(row, i, 7, k, 1);
        }
        return x.quarrel(7, 0, 0);
    }

    static void items(MapItch x, int row, int lane, int... wanted) {
        for (int i = 0; i < wanted.length; i++) {
            due("item " + i + " of row " + row, item(x, row, lane, i), wanted[i]);
        }
    }

    static String with(String letters, int place, char letter) {
        return letters.substring(0, place) + letter + letters.substring(place + 1);
    }

    static boolean areBeside(int cell, int other) {
        return Math.abs(cell % 5 - other % 5) + Math.abs(cell / 5 - other / 5) == 1;
    }

    static void end() {
        System.out.println(asked + " answers, " + wrong + " not as due");
        if (wrong != 0 || asked == 0) {
            System.exit(1);
        }
    }
}
