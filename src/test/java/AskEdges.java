/** The sentences on kinds, asks, counts and status, each with a test of its own: promises 30 to 35, and part 4. */
final class AskEdges extends Check {
    private static final int LEAST = Integer.MIN_VALUE, MOST = Integer.MAX_VALUE;
    private static final int[] NOBODY = {-1, 2, 3, 4, LEAST, MOST};
    private static final String ALL = "p0,3;z0,5;y0,4;k0,2;";

    static void go() {
        kindsOfSurveyors();
        traceOfBodies();
        sizeLent();
        sizeOfPlain();
        sizeOfLazy();
        sizeOfClerks();
        sizeOfObliged();
        markLent();
        markOfPlain();
        markOfTender();
        markOfClerks();
        markOfLazy();
        nearestKind();
        askedAnew();
        kindOf();
        kindBad();
        asOf();
        asBad();
        asKind();
        askOf();
        askBad();
        traceIsEmptyAhead();
        traceOf();
        counts();
        countBad();
        statusOf();
        statusNought();
    }

    /** Surveyors of e where all is wrong: each feels three cells within, six at a seam. */
    private static MapItch all() {
        return with("0,0", B15, A15, COLUMNS, ALL);
    }

    private static MapItch obliged() {
        return with("0,0", B15, A15, COLUMNS, "k0,1;o0,3;");
    }

    private static void answer(MapItch x, int one, int what, int due, int... bodies) {
        due("ask(" + one + ", " + what + ")", x.ask(one, what), due);
        for (int i = 0; i < bodies.length; i++) {
            due("trace(" + i + ") of ask(" + one + ", " + what + ")", x.trace(i), bodies[i]);
        }
        due("its end", x.trace(bodies.length), NONE);
    }

    private static void kindsOfSurveyors() {
        says(TERMS, "KINDS of SURVEYORS: 0 SURVEYOR; 1 PLAIN, a SURVEYOR; 2 LAZY, a PLAIN one; 3 TENDER, a PLAIN one; "
            + "4 CLERK, a SURVEYOR; 5 OBLIGED, a CLERK. By this it is asked.");
        String[] are = {"110000", "111000", "110100", "100010"};
        MapItch x = all();
        for (int one = 0; one < 4; one++) {
            isOne(x, one, are[one]);
        }
        isOne(obliged(), 1, "100011");
    }

    private static void isOne(MapItch x, int one, String are) {
        for (int kind = 0; kind <= 5; kind++) {
            boolean is = are.charAt(kind) == '1';
            due("as(" + one + ", " + kind + ")", x.as(one, kind), is ? one : KIND);
        }
    }

    private static void traceOfBodies() {
        says(TERMS, "4 ASKS of SURVEYORS, by BODIES, each of which leaves its number in THE TRACE as it begins (the first 16):");
        MapItch x = all();
        x.ask(1, 0);
        int[] bodies = {12, 11, 10, 24, 21, 20};
        for (int i = 0; i < 20; i++) {
            due("trace(" + i + ")", x.trace(i), i < bodies.length ? bodies[i] : NONE);
        }
    }

    private static void sizeLent() {
        says(TERMS, "0 SIZE: 10 lent to all SURVEYORS: ITCH.");
        answer(with("0,0", A15, A15, COLUMNS, "k0,1;"), 0, 0, 0 - 100, 13, 10);
        answer(with("0,0", with(A15, 0, 'b'), A15, COLUMNS, "k0,1;"), 0, 0, 1 - 100, 13, 10);
        answer(all(), 3, 0, 9 - 100, 13, 10);
    }

    private static void sizeOfPlain() {
        says(TERMS, "11 of PLAIN ones: what 10 gives, and MARK.");
        answer(all(), 0, 0, 27 + 3, 11, 10, 21, 20);
        answer(all(), 2, 0, 3 * 4 + 6 * 8 + (2 + 4 - 1000), 11, 10, 22, 21, 20);
    }

    private static void sizeOfLazy() {
        says(TERMS, "12 of LAZY ones: 0 less what 11 gives.");
        answer(all(), 1, 0, -(9 * 2 + 2 * (1 + 5)), 12, 11, 10, 24, 21, 20);
    }

    private static void sizeOfClerks() {
        says(TERMS, "13 of CLERKS: what 10 gives, less 100.");
        answer(all(), 3, 0, 9 - 100, 13, 10);
    }

    private static void sizeOfObliged() {
        says(TERMS, "14 of OBLIGED ones: what 13 gives, twice.");
        answer(obliged(), 1, 0, 2 * (6 - 100), 14, 13, 10);
    }

    private static void markLent() {
        says(TERMS, "1 MARK: 20 lent to all SURVEYORS: the number.");
        MapItch x = with("0,0", A15, A15, COLUMNS, "p0,1;p0,1;p0,1;p0,1;");
        for (int one = 0; one < 4; one++) {
            answer(x, one, 1, one + 1, 21, 20);
        }
    }

    private static void markOfPlain() {
        says(TERMS, "21 of PLAIN ones: what 20 gives, and SCALE.");
        MapItch x = with("0,0", A15, A15, COLUMNS, "p0,5;p0,1;p0,4;p0,2;");
        int[] due = {5, 2, 6, 5};
        for (int one = 0; one < 4; one++) {
            answer(x, one, 1, due[one], 21, 20);
        }
    }

    private static void markOfTender() {
        says(TERMS, "22 of TENDER ones: what 21 gives, less 1000.");
        answer(all(), 2, 1, 2 + 4 - 1000, 22, 21, 20);
    }

    private static void markOfClerks() {
        says(TERMS, "23 of CLERKS: what 20 gives, less SIZE.");
        answer(all(), 3, 1, 3 - (9 - 100), 23, 20, 13, 10);
    }

    private static void markOfLazy() {
        says(TERMS, "24 of LAZY ones: what 21 gives, twice.");
        answer(all(), 1, 1, 2 * (1 + 5), 24, 21, 20);
    }

    private static void nearestKind() {
        says(TERMS, "(Of an ask the BODY told for the KIND begins, else that of the nearest KIND that it is, too, "
            + "else the one that is lent;");
        int[][] first = {{11, 21}, {12, 24}, {11, 22}, {13, 23}};
        MapItch x = all();
        for (int one = 0; one < 4; one++) {
            for (int what = 0; what <= 1; what++) {
                x.ask(one, what);
                due("first body of " + one + ", " + what, x.trace(0), first[one][what]);
            }
        }
        MapItch y = obliged();
        y.ask(1, 0);
        due("an obliged one's size", y.trace(0), 14);
        y.ask(1, 1);
        due("an obliged one's mark is a clerk's", y.trace(0), 23);
    }

    private static void askedAnew() {
        says(TERMS, "SIZE, MARK within others are asked of the same SURVEYOR anew.)");
        answer(obliged(), 1, 1, 1 - 2 * (6 - 100), 23, 20, 14, 13, 10);
        answer(all(), 2, 0, 60 + (2 + 4 - 1000), 11, 10, 22, 21, 20);
        answer(all(), 1, 0, -(18 + 12), 12, 11, 10, 24, 21, 20);
    }

    private static void kindOf() {
        says(30, "The KIND of a SURVEYOR, as told (1 to 5).");
        MapItch x = all();
        for (int one = 0; one < 4; one++) {
            due("kind(" + one + ")", x.kind(one), one + 1);
        }
        due("an obliged one", obliged().kind(1), 5);
        x.as(1, 0);
        due("taken as another, it is what it is", x.kind(1), 2);
    }

    private static void kindBad() {
        says(30, "BAD.");
        due("no county", new MapItch().kind(0), BAD);
        due("nobody", with("0,0", A15, A15, WHOLE, "").kind(0), BAD);
        for (int one : NOBODY) {
            due("kind(" + one + ")", obliged().kind(one), BAD);
        }
    }

    private static void asOf() {
        says(31, "A SURVEYOR is taken as one of a KIND (0 .. 5): its number.");
        MapItch x = all();
        int[] kinds = {1, 2, 3, 4};
        for (int one = 0; one < 4; one++) {
            due("as any", x.as(one, 0), one);
            due("as what it is", x.as(one, kinds[one]), one);
            due("status", x.status(), 0);
        }
        due("an obliged one", obliged().as(1, 5), 1);
    }

    private static void asBad() {
        says(31, "BAD;");
        due("no county", new MapItch().as(0, 0), BAD);
        MapItch x = obliged();
        x.drop(0);
        for (int one : NOBODY) {
            due("as(" + one + ", 0)", x.as(one, 0), BAD);
            due("as(" + one + ", 1)", x.as(one, 1), BAD);
        }
        for (int kind : new int[] {-1, 6, LEAST, MOST}) {
            due("kind " + kind, x.as(1, kind), BAD);
        }
        due("status", x.status(), 1);
    }

    private static void asKind() {
        says(31, "KIND: it is no such one.");
        MapItch x = all();
        int[][] not = {{0, 2}, {0, 3}, {0, 4}, {0, 5}, {1, 3}, {1, 4}, {2, 2}, {2, 5}, {3, 1}, {3, 5}};
        for (int[] one : not) {
            x.as(0, 0);
            due("as(" + one[0] + ", " + one[1] + ")", x.as(one[0], one[1]), KIND);
            due("status", x.status(), 3);
        }
        due("an obliged one is not plain", obliged().as(1, 1), KIND);
    }

    private static void askOf() {
        says(32, "An ASK (0, 1) of a SURVEYOR.");
        MapItch x = all();
        int[] size = {30, -30, 60 + 6 - 1000, -91};
        int[] mark = {3, 12, 6 - 1000, 94};
        for (int one = 0; one < 4; one++) {
            due("ask(" + one + ", 0)", x.ask(one, 0), size[one]);
            due("ask(" + one + ", 1)", x.ask(one, 1), mark[one]);
        }
        x.oblige(0);
        due("of what is wrong now", x.ask(0, 0), 3 * 3 + 3);
    }

    private static void askBad() {
        says(32, "BAD.");
        due("no county", new MapItch().ask(0, 0), BAD);
        MapItch x = obliged();
        x.ask(1, 0);
        for (int one : NOBODY) {
            due("ask(" + one + ", 0)", x.ask(one, 0), BAD);
            due("the trace stays", x.trace(2), 10);
        }
        for (int what : new int[] {-1, 2, LEAST, MOST}) {
            due("ask(0, " + what + ")", x.ask(0, what), BAD);
            due("the trace stays", x.trace(0), 14);
        }
    }

    private static void traceIsEmptyAhead() {
        says(32, "THE TRACE is empty ahead of it.");
        MapItch x = all();
        due("none yet", x.trace(0), NONE);
        answer(x, 1, 0, -30, 12, 11, 10, 24, 21, 20);
        answer(x, 0, 1, 3, 21, 20);
        answer(x, 1, 1, 12, 24, 21, 20);
    }

    private static void traceOf() {
        says(33, "Number i of THE TRACE; NONE.");
        MapItch x = new MapItch();
        for (int i : new int[] {0, 1, 15, 16, -1, LEAST, MOST}) {
            due("trace(" + i + ")", x.trace(i), NONE);
        }
        x = all();
        x.ask(0, 1);
        due("trace(0)", x.trace(0), 21);
        due("trace(1)", x.trace(1), 20);
        for (int i : new int[] {2, 3, 15, 16, 17, -1, LEAST, MOST}) {
            due("trace(" + i + ")", x.trace(i), NONE);
        }
    }

    private static void counts() {
        says(34, "How many: 0 ROWS, 1 SURVEYORS, 2 SHIFT, 3 BY, 4 YEAR, 5 CELLS that are WRONG (how many), "
            + "6 ACTS that can be undone, 7 bytes on the tape.");
        MapItch x = new MapItch();
        counts(x, 0, 0, 0, 0, 0, 0, 0, 0);
        for (int row = 0; row < 8; row++) {
            x.row(row, 0, 0);
        }
        counts(x, 8, 0, 0, 0, 0, 0, 0, 0);
        read(x, text("14,3", B15, A15, WHOLE, "o0,1;p0,1;k0,1;y0,1;"));
        counts(x, 8, 4, 14, 3, 0, 15, 0, 0);
        x.years(24);
        x.years(2);
        x.drop(3);
        counts(x, 7, 4, 14, 3, 26, 0, 24, 0);
        x.undo();
        x.brook(4);
        x.feed('l');
        x.feed('0');
        counts(x, 7, 4, 14, 3, 25, 1, 24, 2);
        x.county();
        counts(x, 7, 4, 14, 3, 25, 1, 24, 0);
    }

    private static void counts(MapItch x, int... due) {
        for (int what = 0; what <= 7; what++) {
            due("count(" + what + ")", x.count(what), due[what]);
        }
    }

    private static void countBad() {
        says(34, "BAD.");
        for (int what : new int[] {-1, 8, LEAST, MOST}) {
            due("count(" + what + ")", new MapItch().count(what), BAD);
            due("with a county: count(" + what + ")", plainCounty().count(what), BAD);
        }
    }

    private static void statusOf() {
        says(35, "Of the latest call with a ROW, or as(), that was not BAD, STATE, FULL: the number of its FINDING;");
        MapItch x = new MapItch();
        x.drop(0);
        due("drop: NULL", x.status(), 1);
        x.each(0, 0);
        due("STATE leaves it", x.status(), 1);
        x.row(0, 0, -1);
        due("row: SIZE", x.status(), 4);
        x.row(0, 0, 41);
        x.row(8, 0, 1);
        due("BAD leaves it", x.status(), 4);
        x.row(0, 0, 4);
        x.row(1, 1, 4);
        x.copy(0, 0, 1, 0, 1);
        due("copy: STORE", x.status(), 5);
        for (int k = 0; k < 121; k++) {
            x.feed('q');
        }
        x.count(0);
        x.trace(0);
        x.undo();
        x.county();
        due("FULL leaves it, and all that is without a row", x.status(), 5);
        x.set(0, 4, 0);
        due("set: PLACE", x.status(), 2);
        x.quarrel(2, 0, 0);
        due("quarrel: NULL", x.status(), 1);
        read(x, text("0,0", A15, A15, WHOLE, "k0,1;"));
        x.as(0, 1);
        due("as: KIND", x.status(), 3);
        x.kind(0);
        x.ask(0, 0);
        x.stroke(0, 0);
        x.brook(0);
        x.years(1);
        due("none of these has a row", x.status(), 3);
        x.each(0, 4);
        due("each: PLACE", x.status(), 2);
        x.fit(3, 0, 0);
        due("fit: NULL", x.status(), 1);
        x.scratch(0, -1);
        due("scratch: PLACE", x.status(), 2);
        x.as(0, 6);
        due("as: BAD leaves it", x.status(), 2);
    }

    private static void statusNought() {
        says(35, "0: it had none, or there was none.");
        due("there was none", new MapItch().status(), 0);
        MapItch x = with("0,0", A15, A15, WHOLE, "k0,1;");
        due("there was none", x.status(), 0);
        for (int call = 0; call < 9; call++) {
            x.row(0, 2, 4);
            x.row(1, 2, 1);
            x.drop(5);
            due("a finding", x.status(), 1);
            soundCall(x, call);
            due("none of call " + call, x.status(), 0);
        }
    }

    private static void soundCall(MapItch x, int call) {
        switch (call) {
            case 0: due("row", x.row(0, 2, 0), 0); break;
            case 1: due("set", x.set(0, 0, 3), 3); break;
            case 2: due("copy", x.copy(0, 0, 1, 0, 1), 1); break;
            case 3: due("drop", x.drop(1), 1); break;
            case 4: due("each", x.each(0, 0), 0); break;
            case 5: due("fit", x.fit(0, 0, 1), 0); break;
            case 6: due("scratch", x.scratch(0, 0), 0); break;
            case 7: due("quarrel", x.quarrel(0, 0, 1), 1); break;
            default: due("as", x.as(0, 4), 0); break;
        }
    }
}
