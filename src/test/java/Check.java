/** Counts and prints answers that are not the ones that are due. */
final class Check {
    static final int NONE = -1000000, BAD = -1000001, STATE = -1000002, FULL = -1000003;
    static final int NULL = -1000011, PLACE = -1000012, KIND = -1000013, SIZE = -1000014, STORE = -1000015;

    static final String A15 = "aaaaaaaaaaaaaaa";
    static final String COLUMNS = "eeffgeeffgeeffg";

    private static int wrong = 0;
    private static int asked = 0;

    private Check() {
    }

    static void due(String call, long got, long want) {
        asked++;
        if (got != want) {
            wrong++;
            System.out.println(call + " answered " + got + ", due is " + want);
        }
    }

    static void feed(MapItch x, String text) {
        for (int i = 0; i < text.length(); i++) {
            x.feed(text.charAt(i));
        }
    }

    static int read(MapItch x, String text) {
        feed(x, text);
        return x.county();
    }

    static String text(String law, String land, String sheet, String districts, String surveyors) {
        return "l" + law + ";m" + land + ";n" + sheet + ";c" + districts + ";" + surveyors;
    }

    static MapItch with(String law, String land, String sheet, String districts, String surveyors) {
        MapItch x = new MapItch();
        int men = surveyors.length() / 5;
        due("county() of " + surveyors, read(x, text(law, land, sheet, districts, surveyors)), men);
        return x;
    }

    static void fill(MapItch x, int row, int lane, int... items) {
        due("row", x.row(row, lane, items.length), items.length);
        for (int i = 0; i < items.length; i++) {
            due("set", x.set(row, i, items[i]), items[i]);
        }
    }

    static void end() {
        System.out.println(asked + " answers, " + wrong + " not as due");
        if (wrong != 0 || asked == 0) {
            System.exit(1);
        }
    }
}
