/** The sentences on rows, each with a test of its own: part 1 of the terms, and promises 1 to 5. */
final class RowEdges extends Check {
    private static final int LEAST = Integer.MIN_VALUE, MOST = Integer.MAX_VALUE;

    static void go() {
        rowsAreMissingAtFirst();
        lanes();
        itemsOfARow();
        newObject();
        rowInPlace();
        rowBad();
        rowSize();
        setsLowestBits();
        setBad();
        setNull();
        setPlace();
        copiesAsTheyWere();
        copyBad();
        copyNull();
        copyStore();
        copyPlace();
        dropsForNowOn();
        dropBad();
        dropNull();
    }

    private static void rowsAreMissingAtFirst() {
        says(TERMS, "1 ROWS 0 .. 7 are missing (at first),");
        MapItch x = new MapItch();
        due("count(0)", x.count(0), 0);
        for (int row = 0; row <= 7; row++) {
            due("drop(" + row + ")", x.drop(row), NULL);
            due("set", x.set(row, 0, 0), NULL);
            due("quarrel", x.quarrel(row, 0, 0), NULL);
        }
        for (int row = 0; row <= 7; row++) {
            due("row(" + row + ")", x.row(row, 0, 1), 1);
            due("count(0)", x.count(0), row + 1);
        }
    }

    private static void lanes() {
        says(TERMS, "or have a LANE (0 bytes, 1 shorts, 2 ints)");
        MapItch x = new MapItch();
        int[] most = {127, 32767, MOST};
        int[] least = {-128, -32768, LEAST};
        for (int lane = 0; lane <= 2; lane++) {
            x.row(lane, lane, 1);
            due("most of lane " + lane, x.set(lane, 0, most[lane]), most[lane]);
            due("least of lane " + lane, x.set(lane, 0, least[lane]), least[lane]);
            due("one more than the most of lane " + lane, x.set(lane, 0, most[lane] + 1), least[lane]);
            due("one less than the least of lane " + lane, x.set(lane, 0, least[lane] - 1), most[lane]);
        }
    }

    private static void itemsOfARow() {
        says(TERMS, "and 0 to 40 ITEMS, 0 at first.");
        MapItch x = new MapItch();
        due("no items", x.row(0, 2, 0), 0);
        due("no place 0", x.set(0, 0, 1), PLACE);
        due("a row of none is not missing", x.count(0), 1);
        due("40 items", x.row(1, 2, 40), 40);
        for (int i = 0; i < 40; i++) {
            due("item " + i, item(x, 1, 2, i), 0);
        }
        due("place 39", x.set(1, 39, 5), 5);
        due("no place 40", x.set(1, 40, 5), PLACE);
        due("41 items", x.row(2, 2, 41), BAD);
    }

    private static void newObject() {
        says(1, "No COUNTY.");
        MapItch x = new MapItch();
        for (int what = 0; what <= 7; what++) {
            due("count(" + what + ")", x.count(what), 0);
        }
        due("fault()", x.fault(), 0);
        due("status()", x.status(), 0);
        due("undo()", x.undo(), STATE);
        due("bits(0)", x.bits(0), STATE);
        due("surveyor(0, 0)", x.surveyor(0, 0), BAD);
        due("kind(0)", x.kind(0), BAD);
        due("image(0)", x.image(0), STATE);
        due("restore(0)", x.restore(0), STATE);
        due("restore(1)", x.restore(1), STATE);
        due("trace(0)", x.trace(0), NONE);
    }

    private static void rowInPlace() {
        says(2, "A ROW of a LANE with n ITEMS, in place of what is there: n.");
        MapItch x = new MapItch();
        fill(x, 3, 2, 5, 6, 7, 8, 9);
        due("fewer of them", x.row(3, 2, 3), 3);
        due("still one row", x.count(0), 1);
        items(x, 3, 2, 0, 0, 0);
        due("place 3 is gone", x.set(3, 3, 1), PLACE);
        due("another lane", x.row(3, 0, 2), 2);
        due("its lowest bits", x.set(3, 0, 257), 1);
        due("more of them", x.row(3, 1, 5), 5);
        items(x, 3, 1, 0, 0, 0, 0, 0);
        due("none", x.row(3, 1, 0), 0);
        due("it had none", x.drop(3), 0);
    }

    private static void rowBad() {
        says(2, "BAD: ROW, LANE, n above 40;");
        MapItch x = new MapItch();
        for (int row : new int[] {-1, 8, LEAST, MOST}) {
            due("row " + row, x.row(row, 0, 1), BAD);
            due("row " + row + " ahead of SIZE", x.row(row, 0, -1), BAD);
        }
        for (int lane : new int[] {-1, 3, LEAST, MOST}) {
            due("lane " + lane, x.row(0, lane, 1), BAD);
            due("lane " + lane + " ahead of SIZE", x.row(0, lane, -1), BAD);
        }
        due("n 41", x.row(0, 0, 41), BAD);
        due("n, the most", x.row(0, 0, MOST), BAD);
        due("none was made", x.count(0), 0);
        due("row 0, lane 0", x.row(0, 0, 40), 40);
        due("row 7, lane 2", x.row(7, 2, 40), 40);
    }

    private static void rowSize() {
        says(2, "SIZE.");
        MapItch x = new MapItch();
        due("n -1", x.row(0, 0, -1), SIZE);
        due("its status", x.status(), 4);
        due("n, the least", x.row(7, 2, LEAST), SIZE);
        due("none was made", x.count(0), 0);
        fill(x, 0, 1, 4, 5);
        due("n -1 where a row is", x.row(0, 0, -1), SIZE);
        items(x, 0, 1, 4, 5);
        due("it is as it was", x.drop(0), 2);
    }

    private static void setsLowestBits() {
        says(3, "ITEM i becomes v, its lowest bits, as many as the LANE has: what it is then.");
        MapItch x = new MapItch();
        fill(x, 0, 0, 1, 2, 3);
        int[] given = {128, 255, 256, 511, -129, -256, 65535, 0x12345678, LEAST, MOST};
        int[] bytes = {-128, -1, 0, -1, 127, 0, -1, 0x78, 0, -1};
        int[] shorts = {128, 255, 256, 511, -129, -256, -1, 0x5678, 0, -1};
        x.row(1, 1, 1);
        x.row(2, 2, 1);
        for (int k = 0; k < given.length; k++) {
            due("byte " + given[k], x.set(0, 1, given[k]), bytes[k]);
            due("short " + given[k], x.set(1, 0, given[k]), shorts[k]);
            due("int " + given[k], x.set(2, 0, given[k]), given[k]);
        }
        items(x, 0, 0, 1, -1, 3);
        due("status", x.status(), 0);
    }

    private static void setBad() {
        says(3, "BAD: ROW;");
        MapItch x = new MapItch();
        for (int row : new int[] {-1, 8, LEAST, MOST}) {
            due("set of row " + row, x.set(row, 0, 0), BAD);
            due("set of row " + row + ", no such place", x.set(row, -1, 0), BAD);
        }
    }

    private static void setNull() {
        says(3, "NULL;");
        MapItch x = new MapItch();
        due("row 0", x.set(0, 0, 0), NULL);
        due("ahead of PLACE", x.set(7, -1, 0), NULL);
        due("status", x.status(), 1);
        x.row(0, 0, 1);
        due("another one", x.set(1, 0, 0), NULL);
        x.drop(0);
        due("a dropped one", x.set(0, 0, 0), NULL);
    }

    private static void setPlace() {
        says(3, "PLACE.");
        MapItch x = new MapItch();
        fill(x, 0, 2, 5, 6);
        for (int i : new int[] {-1, 2, 40, LEAST, MOST}) {
            due("place " + i, x.set(0, i, 9), PLACE);
            due("status", x.status(), 2);
        }
        items(x, 0, 2, 5, 6);
        due("the first", x.set(0, 0, 9), 9);
        due("the last", x.set(0, 1, 8), 8);
        x.row(1, 2, 0);
        due("a row of none", x.set(1, 0, 1), PLACE);
        x.row(0, 2, 40);
        x.row(0, 2, 3);
        due("a place it had ahead", x.set(0, 3, 1), PLACE);
    }

    private static void copiesAsTheyWere() {
        says(4, "n ITEMS of a from i on come to b from j on, as they were ahead: n.");
        MapItch x = new MapItch();
        fill(x, 0, 2, 1, 2, 3, 4, 5);
        due("over itself, further", x.copy(0, 0, 0, 1, 4), 4);
        items(x, 0, 2, 1, 1, 2, 3, 4);
        fill(x, 0, 2, 1, 2, 3, 4, 5);
        due("over itself, back", x.copy(0, 1, 0, 0, 4), 4);
        items(x, 0, 2, 2, 3, 4, 5, 5);
        due("onto itself", x.copy(0, 0, 0, 0, 5), 5);
        items(x, 0, 2, 2, 3, 4, 5, 5);
        fill(x, 1, 2, 9, 8, 7);
        due("to another", x.copy(0, 2, 1, 1, 2), 2);
        items(x, 1, 2, 9, 4, 5);
        due("none", x.copy(0, 0, 1, 0, 0), 0);
        items(x, 1, 2, 9, 4, 5);
        x.row(2, 2, 40);
        x.row(3, 2, 40);
        x.set(2, 39, 6);
        due("all forty", x.copy(2, 0, 3, 0, 40), 40);
        due("the last of them", item(x, 3, 2, 39), 6);
    }

    private static void copyBad() {
        says(4, "BAD: ROWS;");
        MapItch x = new MapItch();
        x.row(0, 0, 1);
        for (int row : new int[] {-1, 8, LEAST, MOST}) {
            due("from " + row, x.copy(row, 0, 0, 0, 1), BAD);
            due("to " + row, x.copy(0, 0, row, 0, 1), BAD);
            due("from a missing one to " + row, x.copy(1, 0, row, 0, 1), BAD);
            due("from " + row + " to a missing one", x.copy(row, 0, 1, 0, 1), BAD);
            due("to " + row + " from no such place", x.copy(0, -1, row, 0, -1), BAD);
        }
    }

    private static void copyNull() {
        says(4, "NULL;");
        MapItch x = new MapItch();
        x.row(0, 0, 2);
        due("from a missing one", x.copy(1, 0, 0, 0, 1), NULL);
        due("to a missing one", x.copy(0, 0, 1, 0, 1), NULL);
        due("of two missing ones", x.copy(1, 0, 2, 0, 0), NULL);
        due("of a missing one to itself", x.copy(1, 0, 1, 0, 0), NULL);
        due("ahead of PLACE in the other", x.copy(0, 9, 1, 0, 1), NULL);
        due("ahead of n below 0", x.copy(1, 0, 0, 0, -1), NULL);
        due("status", x.status(), 1);
        due("none was made", x.count(0), 1);
    }

    private static void copyStore() {
        says(4, "STORE;");
        MapItch x = new MapItch();
        for (int lane = 0; lane <= 2; lane++) {
            fill(x, lane, lane, lane + 1, lane + 2);
        }
        for (int a = 0; a <= 2; a++) {
            for (int b = 0; b <= 2; b++) {
                due("lane " + a + " to lane " + b, x.copy(a, 0, b, 0, 1), a == b ? 1 : STORE);
                due("status", x.status(), a == b ? 0 : 5);
                due("none of them", x.copy(a, 0, b, 0, 0), a == b ? 0 : STORE);
                due("ahead of PLACE", x.copy(a, -1, b, 3, -1), a == b ? PLACE : STORE);
            }
        }
        for (int lane = 0; lane <= 2; lane++) {
            items(x, lane, lane, lane + 1, lane + 2);
        }
    }

    private static void copyPlace() {
        says(4, "PLACE (i, j, n below 0, or beyond an end).");
        MapItch x = new MapItch();
        fill(x, 0, 2, 1, 2, 3, 4, 5);
        fill(x, 1, 2, 6, 7, 8);
        int[][] ends = {
            {-1, 0, 1}, {0, -1, 1}, {0, 0, -1}, {LEAST, 0, 0}, {0, LEAST, 0}, {0, 0, LEAST},
            {3, 0, 3}, {0, 1, 3}, {5, 0, 1}, {0, 3, 1}, {6, 0, 0}, {0, 4, 0}, {0, 0, 4}, {0, 0, MOST},
            {MOST, 0, 1}, {0, MOST, 1}, {MOST, MOST, MOST}, {1, 1, MOST}, {-1, -1, 0}
        };
        for (int[] end : ends) {
            due("i " + end[0] + ", j " + end[1] + ", n " + end[2], x.copy(0, end[0], 1, end[1], end[2]), PLACE);
            due("status", x.status(), 2);
        }
        items(x, 1, 2, 6, 7, 8);
        due("none at both ends", x.copy(0, 5, 1, 3, 0), 0);
        due("up to both ends", x.copy(0, 2, 1, 0, 3), 3);
        items(x, 1, 2, 3, 4, 5);
    }

    private static void dropsForNowOn() {
        says(5, "A ROW is missing from now on: how many ITEMS it had.");
        MapItch x = new MapItch();
        int[] sizes = {0, 1, 13, 40};
        for (int n : sizes) {
            x.row(6, 1, n);
            due("it had " + n, x.drop(6), n);
            due("status", x.status(), 0);
            due("count(0)", x.count(0), 0);
            due("set", x.set(6, 0, 0), NULL);
            due("copy", x.copy(6, 0, 6, 0, 0), NULL);
        }
        fill(x, 6, 2, 4, 4);
        x.drop(6);
        x.row(6, 2, 2);
        items(x, 6, 2, 0, 0);
    }

    private static void dropBad() {
        says(5, "BAD;");
        MapItch x = new MapItch();
        for (int row : new int[] {-1, 8, LEAST, MOST}) {
            due("drop(" + row + ")", x.drop(row), BAD);
        }
    }

    private static void dropNull() {
        says(5, "NULL.");
        MapItch x = new MapItch();
        due("drop(0)", x.drop(0), NULL);
        due("status", x.status(), 1);
        x.row(0, 0, 3);
        x.drop(0);
        due("a second time", x.drop(0), NULL);
        due("the last", x.drop(7), NULL);
    }
}
