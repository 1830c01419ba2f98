/** Promises 1 to 5, and what 34 and 35 say of rows. */
public final class RowsTest {
    public static void main(String[] args) {
        newObject();
        makesRows();
        setsItems();
        copiesItems();
        dropsRows();
        statusOfFindings();
        Check.end();
    }

    private static void newObject() {
        MapItch x = new MapItch();
        for (int what = 0; what <= 7; what++) {
            Check.due("new: count(" + what + ")", x.count(what), 0);
        }
        Check.due("new: status", x.status(), 0);
        Check.due("new: fault", x.fault(), 0);
        Check.due("new: unfelt", x.unfelt(), Check.STATE);
        Check.due("new: trace", x.trace(0), Check.NONE);
        Check.due("new: restore", x.restore(0), Check.STATE);
        for (int row = 0; row < 8; row++) {
            Check.due("new: drop", x.drop(row), Check.NULL);
        }
    }

    private static void makesRows() {
        MapItch x = new MapItch();
        Check.due("row -1", x.row(-1, 0, 1), Check.BAD);
        Check.due("row 8", x.row(8, 0, 1), Check.BAD);
        Check.due("lane -1", x.row(0, -1, 1), Check.BAD);
        Check.due("lane 3", x.row(0, 3, 1), Check.BAD);
        Check.due("41 items", x.row(0, 0, 41), Check.BAD);
        Check.due("most items", x.row(0, 0, Integer.MAX_VALUE), Check.BAD);
        Check.due("BAD ahead of SIZE", x.row(8, 0, -1), Check.BAD);
        Check.due("BAD lane ahead of SIZE", x.row(0, 3, -1), Check.BAD);
        Check.due("fewer than none", x.row(0, 0, -1), Check.SIZE);
        Check.due("least", x.row(7, 2, Integer.MIN_VALUE), Check.SIZE);
        Check.due("no rows", x.count(0), 0);
        Check.due("no items", x.row(0, 0, 0), 0);
        Check.due("40 items", x.row(7, 2, 40), 40);
        Check.due("rows", x.count(0), 2);
        Check.due("put", x.set(7, 39, 9), 9);
        Check.due("put at 0", x.set(7, 0, 9), 9);
        Check.due("in its place", x.row(7, 2, 40), 40);
        Check.due("rows still", x.count(0), 2);
        Check.due("a row to copy to", x.row(1, 2, 40), 40);
        Check.due("put 7", x.set(1, 0, 7), 7);
        x.copy(7, 39, 1, 0, 1);
        Check.due("0 again", firstOf(x, 1), 0);
        Check.due("0 at 0, too", firstOf(x, 7), 0);
        x.set(7, 0, 5);
        Check.due("SIZE leaves the row", x.row(7, 2, -1), Check.SIZE);
        Check.due("as it was", x.drop(7), 40);
    }

    private static void setsItems() {
        MapItch x = new MapItch();
        Check.due("missing", x.set(0, 0, 0), Check.NULL);
        Check.due("BAD ahead of NULL", x.set(8, 0, 0), Check.BAD);
        Check.due("BAD below", x.set(-1, 0, 0), Check.BAD);
        x.row(0, 0, 2);
        x.row(1, 1, 2);
        x.row(2, 2, 2);
        Check.due("place -1", x.set(0, -1, 0), Check.PLACE);
        Check.due("place 2", x.set(0, 2, 0), Check.PLACE);
        Check.due("far place", x.set(0, Integer.MAX_VALUE, 0), Check.PLACE);
        Check.due("byte 127", x.set(0, 0, 127), 127);
        Check.due("byte 128", x.set(0, 0, 128), -128);
        Check.due("byte 256", x.set(0, 1, 256), 0);
        Check.due("byte -129", x.set(0, 1, -129), 127);
        Check.due("short 32768", x.set(1, 0, 32768), -32768);
        Check.due("short 65537", x.set(1, 0, 65537), 1);
        Check.due("short 128", x.set(1, 1, 128), 128);
        Check.due("int", x.set(2, 0, Integer.MIN_VALUE), Integer.MIN_VALUE);
        Check.due("int 65537", x.set(2, 1, 65537), 65537);
        x.row(3, 2, 0);
        Check.due("no place at all", x.set(3, 0, 1), Check.PLACE);
    }

    private static void copiesItems() {
        MapItch x = new MapItch();
        Check.due("BAD a", x.copy(-1, 0, 0, 0, 0), Check.BAD);
        Check.due("BAD b", x.copy(0, 0, 8, 0, 0), Check.BAD);
        x.row(0, 2, 5);
        Check.due("b is missing", x.copy(0, 0, 1, 0, 1), Check.NULL);
        Check.due("a is missing", x.copy(1, 0, 0, 0, 1), Check.NULL);
        x.row(1, 1, 5);
        Check.due("two lanes", x.copy(0, 0, 1, 0, 1), Check.STORE);
        Check.due("STORE ahead of PLACE", x.copy(0, -1, 1, 0, 1), Check.STORE);
        Check.due("NULL ahead of PLACE", x.copy(0, -1, 2, 0, 1), Check.NULL);
        x.row(1, 2, 3);
        Check.due("i below", x.copy(0, -1, 1, 0, 1), Check.PLACE);
        Check.due("j below", x.copy(0, 0, 1, -1, 1), Check.PLACE);
        Check.due("n below", x.copy(0, 0, 1, 0, -1), Check.PLACE);
        Check.due("beyond a", x.copy(0, 3, 1, 0, 3), Check.PLACE);
        Check.due("beyond b", x.copy(0, 0, 1, 1, 3), Check.PLACE);
        Check.due("far", x.copy(0, Integer.MAX_VALUE, 1, 0, Integer.MAX_VALUE), Check.PLACE);
        Check.due("none at the ends", x.copy(0, 5, 1, 3, 0), 0);
        Check.due("none beyond an end", x.copy(0, 6, 1, 3, 0), Check.PLACE);
        for (int i = 0; i < 5; i++) {
            x.set(0, i, i + 1);
        }
        Check.due("over itself, on", x.copy(0, 0, 0, 1, 4), 4);
        items(x, 0, 1, 1, 2, 3, 4);
        Check.due("over itself, back", x.copy(0, 2, 0, 0, 3), 3);
        items(x, 0, 2, 3, 4, 3, 4);
        Check.due("to another", x.copy(0, 1, 1, 0, 3), 3);
        items(x, 1, 3, 4, 3);
    }

    private static void dropsRows() {
        MapItch x = new MapItch();
        Check.due("BAD", x.drop(-1), Check.BAD);
        Check.due("BAD above", x.drop(8), Check.BAD);
        Check.due("missing", x.drop(7), Check.NULL);
        x.row(7, 0, 13);
        Check.due("had", x.drop(7), 13);
        Check.due("gone", x.drop(7), Check.NULL);
        Check.due("rows", x.count(0), 0);
        x.row(7, 0, 0);
        Check.due("had none", x.drop(7), 0);
        Check.due("set", x.set(7, 0, 0), Check.NULL);
    }

    private static void statusOfFindings() {
        MapItch x = new MapItch();
        x.drop(0);
        Check.due("NULL", x.status(), 1);
        x.drop(8);
        Check.due("BAD leaves it", x.status(), 1);
        x.each(0, 0);
        Check.due("STATE leaves it", x.status(), 1);
        x.count(0);
        x.trace(0);
        x.feed(1);
        Check.due("no call with a row", x.status(), 1);
        x.row(0, 0, 1);
        Check.due("none", x.status(), 0);
        x.set(0, 1, 0);
        Check.due("PLACE", x.status(), 2);
        x.row(1, 1, -1);
        Check.due("SIZE", x.status(), 4);
        x.row(1, 1, 1);
        x.copy(0, 0, 1, 0, 1);
        Check.due("STORE", x.status(), 5);
        x.set(0, 0, 0);
        Check.due("none again", x.status(), 0);
        x.quarrel(0, 0, 0);
        Check.due("quarrel PLACE", x.status(), 2);
        Check.fill(x, 2, 2, 21, 0, 0, 0);
        x.set(2, 4, 0);
        Check.due("BAD item", x.quarrel(2, 0, 0), Check.BAD);
        Check.due("a late BAD leaves it", x.status(), 2);
        x.set(2, 0, 20);
        x.set(2, 4, 0);
        x.quarrel(2, 0, 0);
        Check.due("quarrel without a finding", x.status(), 0);
    }

    /** What item 0 is: a quarrel in which all four items are the same has that worth. */
    private static int firstOf(MapItch x, int row) {
        x.row(6, 2, 4);
        for (int k = 0; k < 4; k++) {
            x.copy(row, 0, 6, k, 1);
        }
        return x.quarrel(6, 0, 0);
    }

    private static void items(MapItch x, int row, int... wanted) {
        x.row(5, 2, 1);
        for (int i = 0; i < wanted.length; i++) {
            x.copy(row, i, 5, 0, 1);
            Check.due("item " + i + " of row " + row, firstOf(x, 5), wanted[i]);
        }
    }
}
