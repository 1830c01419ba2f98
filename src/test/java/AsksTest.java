/** Promises 30 to 33, and what 35 says of as(). */
public final class AsksTest {
    private static final String LAND = "bbbbbbbbbbbbbbb";

    public static void main(String[] args) {
        refusals();
        kinds();
        asks();
        Check.end();
    }

    private static void refusals() {
        MapItch x = new MapItch();
        Check.due("kind", x.kind(0), Check.BAD);
        Check.due("as", x.as(0, 0), Check.BAD);
        Check.due("ask", x.ask(0, 0), Check.BAD);
        x = Check.with("0,0", LAND, Check.A15, Check.COLUMNS, "p0,3;k1,1;");
        for (int one = -1; one <= 2; one += 3) {
            Check.due("kind", x.kind(one), Check.BAD);
            Check.due("as", x.as(one, 0), Check.BAD);
            Check.due("ask", x.ask(one, 0), Check.BAD);
        }
        Check.due("as -1", x.as(0, -1), Check.BAD);
        Check.due("as 6", x.as(0, 6), Check.BAD);
        Check.due("trace", x.trace(0), Check.NONE);
        x.ask(0, 0);
        Check.due("ask -1", x.ask(0, -1), Check.BAD);
        Check.due("ask 2", x.ask(0, 2), Check.BAD);
        Check.due("a trace stays", x.trace(0), 11);
        Check.due("trace -1", x.trace(-1), Check.NONE);
        Check.due("trace 16", x.trace(16), Check.NONE);
        Check.due("far trace", x.trace(Integer.MAX_VALUE), Check.NONE);
    }

    private static void kinds() {
        MapItch x = Check.with("0,0", LAND, Check.A15, Check.COLUMNS, "p0,3;z1,1;y2,1;k0,1;");
        isA(x, 0, 1, "110000");
        isA(x, 1, 2, "111000");
        isA(x, 2, 3, "110100");
        isA(x, 3, 4, "100010");
        x = Check.with("0,0", LAND, Check.A15, Check.COLUMNS, "o0,3;");
        isA(x, 0, 5, "100011");
        x.drop(0);
        x.as(0, 6);
        Check.due("BAD leaves it", x.status(), 1);
        x.ask(0, 0);
        x.kind(0);
        Check.due("others leave it", x.status(), 1);
    }

    private static void isA(MapItch x, int one, int kind, String is) {
        Check.due("kind of " + one, x.kind(one), kind);
        for (int k = 0; k < 6; k++) {
            boolean fits = is.charAt(k) == '1';
            Check.due("as(" + one + ", " + k + ")", x.as(one, k), fits ? one : Check.KIND);
            Check.due("its status", x.status(), fits ? 0 : 3);
        }
    }

    private static void asks() {
        // each of district e feels three cells within it, six at its seam
        MapItch x = Check.with("0,0", LAND, Check.A15, Check.COLUMNS, "k0,1;p0,3;z0,5;y0,4;");
        answer(x, 1, 0, 27 + (1 + 3), 11, 10, 21, 20);
        answer(x, 1, 1, 1 + 3, 21, 20);
        answer(x, 2, 0, -(18 + 2 * (2 + 5)), 12, 11, 10, 24, 21, 20);
        answer(x, 2, 1, 2 * (2 + 5), 24, 21, 20);
        answer(x, 3, 0, 60 + (3 + 4 - 1000), 11, 10, 22, 21, 20);
        answer(x, 3, 1, 3 + 4 - 1000, 22, 21, 20);
        answer(x, 0, 0, 9 - 100, 13, 10);
        answer(x, 0, 1, 0 - (9 - 100), 23, 20, 13, 10);
        x = Check.with("0,0", LAND, Check.A15, Check.COLUMNS, "k0,1;o0,3;");
        answer(x, 1, 0, 2 * (6 - 100), 14, 13, 10);
        answer(x, 1, 1, 1 - 2 * (6 - 100), 23, 20, 14, 13, 10);
        Check.due("nothing changes", x.count(6), 0);
    }

    private static void answer(MapItch x, int one, int what, int due, int... bodies) {
        Check.due("ask(" + one + ", " + what + ")", x.ask(one, what), due);
        for (int i = 0; i < bodies.length; i++) {
            Check.due("trace(" + i + ") of ask(" + one + ", " + what + ")", x.trace(i), bodies[i]);
        }
        Check.due("its end", x.trace(bodies.length), Check.NONE);
    }
}
