import java.util.ArrayList;
import java.util.List;
import java.util.function.Consumer;
import java.util.function.ToLongFunction;

/** The sentences ahead of part 1 of the terms, each with a test of its own: numbers, fractions, refusals, findings. */
final class TermEdges extends Check {
    private static final String MEN = "o0,1;p1,2;z2,5;";

    static void go() {
        anObjectIsUsed();
        numbersFromNought();
        cutTowardsNought();
        lowestTerms();
        noughtByOne();
        setsAreBits();
        badAheadOfOthers();
        statesAsTold();
        fullAsTold();
        findingsFirstInTime();
        numbersOfFindings();
        changesNothing();
    }

    /** The document's "What it is": an object is used for at most 512 calls. */
    private static void anObjectIsUsed() {
        MapItch x = new MapItch();
        String county = text("0,0", A15, A15, WHOLE, "k0,1;");
        feed(x, county);
        due("county()", x.county(), 1);
        for (int call = county.length() + 2; call <= 512; call++) {
            due("call " + call, x.brook(0), (call - county.length() - 1) % 4);
        }
    }

    private static void numbersFromNought() {
        says(TERMS, "Numbers go from 0 on.");
        MapItch x = with("0,0", with(A15, 0, 'b'), A15, WHOLE, "k0,1;p0,1;");
        due("row 0", x.row(0, 0, 1), 1);
        due("item 0", x.set(0, 0, 7), 7);
        due("cell 0", x.cell(0, 0), 1);
        due("cell 0 is bit 0", x.bits(0), 1);
        due("surveyor 0", x.kind(0), 4);
        due("surveyor 0 is bit 0", x.cell(0, 4), 3);
        due("the first to sign", x.sign(0), 0);
        due("the first stroke", x.strokes(0, 0), 1);
        due("image 0", x.image(0), 1);
        x.ask(0, 0);
        due("trace 0", x.trace(0), 13);
        due("before the first", x.trace(-1), NONE);
    }

    private static void cutTowardsNought() {
        says(TERMS, "All that is divided is cut towards 0, but fractions,");
        int[] half = {0, 0, 1, 1, 2, 2};
        for (int scale = 1; scale <= 5; scale++) {
            due("half of " + scale, with("0,0", B15, A15, WHOLE, "z0," + scale + ";").surveyor(0, 2), 15 * half[scale]);
        }
    }

    private static void lowestTerms() {
        says(TERMS, "told as two numbers in lowest terms");
        MapItch x = with("0,0", A15, "abcdaaaaaaaaaaa", WHOLE, "");
        fraction(x.drawnSo(1, 5, 1, 0), x.drawnSo(1, 5, 1, 1), 1, 2);
        fraction(x.drawnSo(0, 2, 1, 0), x.drawnSo(0, 2, 1, 1), 4, 5);
        fraction(x.drawnSo(0, 0, 6, 0), x.drawnSo(0, 0, 6, 1), 1, 1);
        fill(x, 0, 2, 4, 0, 0, 4, -4, 0, 0, -8);
        fraction(x.quarrel(0, 0, 0), x.quarrel(0, 0, 1), 2, 1);
        fraction(x.quarrel(0, 4, 0), x.quarrel(0, 4, 1), -8, 3);
    }

    private static void fraction(long above, long below, long dueAbove, long dueBelow) {
        due("above", above, dueAbove);
        due("below", below, dueBelow);
    }

    private static void noughtByOne() {
        says(TERMS, "(0 is 0 by 1).");
        MapItch x = with("0,0", A15, "abcdaaaaaaaaaaa", WHOLE, "");
        for (int n = 0; n <= 2; n++) {
            fraction(x.drawnSo(3, 5, n, 0), x.drawnSo(3, 5, n, 1), 0, 1);
        }
        fraction(x.drawnSo(1, 0, 6, 0), x.drawnSo(1, 0, 6, 1), 0, 1);
        fill(x, 0, 2, 7, -7, -7, 7, 0, 0, 0, 0);
        fraction(x.quarrel(0, 0, 0), x.quarrel(0, 0, 1), 0, 1);
        fraction(x.quarrel(0, 4, 0), x.quarrel(0, 4, 1), 0, 1);
    }

    private static void setsAreBits() {
        says(TERMS, "Sets are bits.");
        for (int cell = 0; cell < 15; cell++) {
            due("cell " + cell, with("0,0", with(A15, cell, 'b'), A15, WHOLE, "").bits(0), 1 << cell);
        }
        due("all cells", with("0,0", B15, A15, WHOLE, "").bits(0), 32767);
        due("all surveyors", plainCounty().bits(2), 15);
        due("an empty set", with("0,0", A15, A15, WHOLE, "").bits(2), 0);
    }

    private static void badAheadOfOthers() {
        says(TERMS, "Refusals are answers, the first of these that fits, but as told: "
            + "BAD (a number is not as told; there is no such thing),");
        MapItch x = new MapItch();
        due("image, ahead of STATE", x.image(2), BAD);
        due("restore, ahead of STATE", x.restore(-1), BAD);
        due("row, ahead of SIZE", x.row(0, 3, -1), BAD);
        due("set, ahead of NULL", x.set(8, -1, 0), BAD);
        due("copy, ahead of NULL", x.copy(0, -1, 8, 0, 0), BAD);
        due("quarrel, ahead of NULL", x.quarrel(0, 0, 2), BAD);
        due("no such surveyor", x.oblige(0), BAD);
        for (int k = 0; k < 120; k++) {
            x.feed(' ');
        }
        due("feed, ahead of FULL", x.feed(256), BAD);
        MapItch y = new MapItch();
        read(y, text("0,0", A15, A15, WHOLE, "k0,1;"));
        due("as, ahead of KIND", y.as(1, 1), BAD);
        due("as, ahead of KIND", y.as(0, 6), BAD);
        due("fit, ahead of NULL", y.fit(0, 0, 2), BAD);
    }

    private static void statesAsTold() {
        says(TERMS, "STATE (as told),");
        MapItch x = new MapItch();
        due("stroke, ahead of BAD", x.stroke(15, 4), STATE);
        due("brook, ahead of BAD", x.brook(15), STATE);
        due("years, ahead of BAD", x.years(25), STATE);
        due("cell, ahead of BAD", x.cell(15, 5), STATE);
        due("bits, ahead of BAD", x.bits(3), STATE);
        due("strokes, ahead of BAD", x.strokes(2, 2), STATE);
        due("each, ahead of BAD", x.each(8, -1), STATE);
        due("fit, ahead of BAD", x.fit(8, -1, 2), STATE);
        due("scratch, ahead of BAD", x.scratch(8, -1), STATE);
        due("men, ahead of BAD", x.men(2), STATE);
        due("sign, ahead of BAD", x.sign(4), STATE);
        due("settled, ahead of BAD", x.settled(2), STATE);
        due("drawnSo, ahead of BAD", x.drawnSo(15, 11, 7, 2), STATE);
        due("drawn, ahead of BAD", x.drawn(61, 0, 2), STATE);
        due("each, ahead of NULL", x.each(0, 0), STATE);
        due("undo", x.undo(), STATE);
        due("unfelt", x.unfelt(), STATE);
        due("image, behind BAD", x.image(0), STATE);
        due("restore, behind BAD", x.restore(0), STATE);
    }

    private static void fullAsTold() {
        says(TERMS, "FULL (as told), then FINDINGS,");
        MapItch x = new MapItch();
        for (int k = 0; k < 120; k++) {
            x.feed(' ');
        }
        due("the tape", x.feed(' '), FULL);
        MapItch y = new MapItch();
        read(y, text("0,0", A15, A15, WHOLE, ""));
        for (int k = 0; k < 41; k++) {
            y.years(24);
        }
        due("years", y.years(16), FULL);
        due("years, behind BAD", y.years(25), BAD);
    }

    private static void findingsFirstInTime() {
        says(TERMS, "of several the first in time:");
        MapItch x = plainCounty();
        due("set: NULL, then PLACE", x.set(0, -1, 0), NULL);
        due("each: NULL, then PLACE", x.each(0, -1), NULL);
        due("fit: NULL, then PLACE", x.fit(0, -1, 0), NULL);
        due("scratch: NULL, then PLACE", x.scratch(0, -1), NULL);
        due("quarrel: NULL, then PLACE", x.quarrel(0, -1, 0), NULL);
        x.row(0, 0, 1);
        due("copy: NULL, then PLACE", x.copy(0, -1, 1, -1, -1), NULL);
        due("copy: NULL, then PLACE", x.copy(1, -1, 0, -1, -1), NULL);
        x.row(1, 1, 1);
        due("copy: STORE, then PLACE", x.copy(0, -1, 1, -1, -1), STORE);
        due("copy: STORE, then PLACE", x.copy(1, 0, 0, 0, 2), STORE);
    }

    private static void numbersOfFindings() {
        says(TERMS, "-1000010 less 1 NULL (a ROW that is missing), 2 PLACE (no such place of a ROW), "
            + "3 KIND (a SURVEYOR that is not that), 4 SIZE (fewer than none), 5 STORE (ROWS of two LANES).");
        MapItch x = plainCounty();
        due("NULL", x.drop(0), -1000011);
        due("its number", x.status(), 1);
        x.row(0, 0, 1);
        due("PLACE", x.set(0, 1, 0), -1000012);
        due("its number", x.status(), 2);
        due("KIND", x.as(0, 5), -1000013);
        due("its number", x.status(), 3);
        due("SIZE", x.row(1, 0, -1), -1000014);
        due("its number", x.status(), 4);
        x.row(1, 2, 1);
        due("STORE", x.copy(0, 0, 1, 0, 1), -1000015);
        due("its number", x.status(), 5);
    }

    private record Refused(String call, long answer, ToLongFunction<MapItch> asked) {
    }

    private static MapItch fresh() {
        return new MapItch();
    }

    /** One with rows, acts, an image (0), a trace, a fault, bytes on the tape, and a finding. */
    private static MapItch busy() {
        MapItch x = new MapItch();
        read(x, "l99");
        read(x, text("3,2", "bbaaaaabaaaaaac", A15, COLUMNS, MEN));
        x.brook(3);
        x.image(0);
        x.stroke(4, 1);
        x.years(2);
        x.oblige(1);
        x.ask(2, 0);
        x.row(0, 0, 3);
        x.row(2, 2, 5);
        x.row(5, 1, 0);
        x.set(0, 1, 9);
        x.set(2, 0, 20);
        x.set(2, 4, 21);
        x.feed('l');
        x.feed('9');
        x.copy(0, 0, 2, 0, 1);
        return x;
    }

    /** One whose tape is full, and whose years are gone. */
    private static MapItch full() {
        MapItch x = new MapItch();
        read(x, text("0,0", B15, A15, WHOLE, "k0,1;"));
        for (int k = 0; k < 41; k++) {
            x.years(24);
        }
        for (int k = 0; k < 120; k++) {
            x.feed(k == 0 ? 'l' : '0');
        }
        return x;
    }

    private static void changesNothing() {
        says(TERMS, "What is refused, or found, changes nothing but status().");
        for (Refused one : ofFresh()) {
            leavesNoMark("fresh", TermEdges::fresh, one);
        }
        for (Refused one : ofBusy()) {
            leavesNoMark("busy", TermEdges::busy, one);
        }
        for (Refused one : ofFull()) {
            leavesNoMark("full", TermEdges::full, one);
        }
    }

    private static List<Refused> ofFresh() {
        List<Refused> all = new ArrayList<>();
        all.add(new Refused("county()", -1000100, MapItch::county));
        all.add(new Refused("undo()", STATE, MapItch::undo));
        all.add(new Refused("stroke(0, 1)", STATE, x -> x.stroke(0, 1)));
        all.add(new Refused("brook(0)", STATE, x -> x.brook(0)));
        all.add(new Refused("oblige(0)", BAD, x -> x.oblige(0)));
        all.add(new Refused("years(1)", STATE, x -> x.years(1)));
        all.add(new Refused("image(0)", STATE, x -> x.image(0)));
        all.add(new Refused("restore(0)", STATE, x -> x.restore(0)));
        all.add(new Refused("ask(0, 0)", BAD, x -> x.ask(0, 0)));
        all.add(new Refused("each(0, 0)", STATE, x -> x.each(0, 0)));
        all.add(new Refused("cell(0, 0)", STATE, x -> x.cell(0, 0)));
        all.add(new Refused("bits(0)", STATE, x -> x.bits(0)));
        all.add(new Refused("strokes(0, -1)", STATE, x -> x.strokes(0, -1)));
        all.add(new Refused("unfelt()", STATE, x -> x.unfelt()));
        all.add(new Refused("fit(0, 0, 0)", STATE, x -> x.fit(0, 0, 0)));
        all.add(new Refused("scratch(0, 0)", STATE, x -> x.scratch(0, 0)));
        all.add(new Refused("men(0)", STATE, x -> x.men(0)));
        all.add(new Refused("sign(0)", STATE, x -> x.sign(0)));
        all.add(new Refused("settled(0)", STATE, x -> x.settled(0)));
        all.add(new Refused("drawnSo(0, 0, 0, 0)", STATE, x -> x.drawnSo(0, 0, 0, 0)));
        all.add(new Refused("drawn(1, 1, 0)", STATE, x -> x.drawn(1, 1, 0)));
        all.add(new Refused("surveyor(0, 0)", BAD, x -> x.surveyor(0, 0)));
        all.add(new Refused("kind(0)", BAD, x -> x.kind(0)));
        all.add(new Refused("as(0, 0)", BAD, x -> x.as(0, 0)));
        all.add(new Refused("drop(0)", NULL, x -> x.drop(0)));
        all.add(new Refused("row(0, 0, -1)", SIZE, x -> x.row(0, 0, -1)));
        return all;
    }

    private static List<Refused> ofBusy() {
        List<Refused> all = new ArrayList<>();
        all.add(new Refused("row(8, 2, 4)", BAD, x -> x.row(8, 2, 4)));
        all.add(new Refused("row(0, 2, 41)", BAD, x -> x.row(0, 2, 41)));
        all.add(new Refused("row(0, 3, 4)", BAD, x -> x.row(0, 3, 4)));
        all.add(new Refused("row(0, 2, -1)", SIZE, x -> x.row(0, 2, -1)));
        all.add(new Refused("row(1, 2, -1)", SIZE, x -> x.row(1, 2, -1)));
        all.add(new Refused("set(8, 0, 1)", BAD, x -> x.set(8, 0, 1)));
        all.add(new Refused("set(1, 0, 1)", NULL, x -> x.set(1, 0, 1)));
        all.add(new Refused("set(0, 3, 1)", PLACE, x -> x.set(0, 3, 1)));
        all.add(new Refused("copy(2, 0, 8, 0, 1)", BAD, x -> x.copy(2, 0, 8, 0, 1)));
        all.add(new Refused("copy(2, 0, 1, 0, 1)", NULL, x -> x.copy(2, 0, 1, 0, 1)));
        all.add(new Refused("copy(0, 1, 2, 0, 1)", STORE, x -> x.copy(0, 1, 2, 0, 1)));
        all.add(new Refused("copy(2, 0, 2, 4, 2)", PLACE, x -> x.copy(2, 0, 2, 4, 2)));
        all.add(new Refused("drop(8)", BAD, x -> x.drop(8)));
        all.add(new Refused("drop(1)", NULL, x -> x.drop(1)));
        all.add(new Refused("feed(256)", BAD, x -> x.feed(256)));
        all.add(new Refused("stroke(0, 4)", BAD, x -> x.stroke(0, 4)));
        all.add(new Refused("stroke(15, 0)", BAD, x -> x.stroke(15, 0)));
        all.add(new Refused("stroke(4, 1)", STATE, x -> x.stroke(4, 1)));
        all.add(new Refused("brook(15)", BAD, x -> x.brook(15)));
        all.add(new Refused("oblige(3)", BAD, x -> x.oblige(3)));
        all.add(new Refused("years(0)", BAD, x -> x.years(0)));
        all.add(new Refused("years(25)", BAD, x -> x.years(25)));
        all.add(new Refused("cell(15, 0)", BAD, x -> x.cell(15, 0)));
        all.add(new Refused("cell(0, 5)", BAD, x -> x.cell(0, 5)));
        all.add(new Refused("surveyor(3, 0)", BAD, x -> x.surveyor(3, 0)));
        all.add(new Refused("surveyor(0, 4)", BAD, x -> x.surveyor(0, 4)));
        all.add(new Refused("bits(3)", BAD, x -> x.bits(3)));
        all.add(new Refused("strokes(2, 0)", BAD, x -> x.strokes(2, 0)));
        all.add(new Refused("strokes(0, 2)", BAD, x -> x.strokes(0, 2)));
        all.add(new Refused("each(8, 0)", BAD, x -> x.each(8, 0)));
        all.add(new Refused("each(1, 0)", NULL, x -> x.each(1, 0)));
        all.add(new Refused("each(0, 1)", PLACE, x -> x.each(0, 1)));
        all.add(new Refused("fit(8, 0, 0)", BAD, x -> x.fit(8, 0, 0)));
        all.add(new Refused("fit(0, 0, 2)", BAD, x -> x.fit(0, 0, 2)));
        all.add(new Refused("fit(1, 0, 0)", NULL, x -> x.fit(1, 0, 0)));
        all.add(new Refused("fit(0, 1, 0)", PLACE, x -> x.fit(0, 1, 0)));
        all.add(new Refused("scratch(8, 0)", BAD, x -> x.scratch(8, 0)));
        all.add(new Refused("scratch(1, 0)", NULL, x -> x.scratch(1, 0)));
        all.add(new Refused("scratch(5, 0)", PLACE, x -> x.scratch(5, 0)));
        all.add(new Refused("men(2)", BAD, x -> x.men(2)));
        all.add(new Refused("sign(4)", BAD, x -> x.sign(4)));
        all.add(new Refused("settled(2)", BAD, x -> x.settled(2)));
        all.add(new Refused("drawnSo(0, 11, 0, 0)", BAD, x -> x.drawnSo(0, 11, 0, 0)));
        all.add(new Refused("quarrel(8, 0, 0)", BAD, x -> x.quarrel(8, 0, 0)));
        all.add(new Refused("quarrel(2, 0, 2)", BAD, x -> x.quarrel(2, 0, 2)));
        all.add(new Refused("quarrel(1, 0, 0)", NULL, x -> x.quarrel(1, 0, 0)));
        all.add(new Refused("quarrel(0, 0, 0)", PLACE, x -> x.quarrel(0, 0, 0)));
        all.add(new Refused("quarrel(2, 1, 0)", BAD, x -> x.quarrel(2, 1, 0)));
        all.add(new Refused("drawn(61, 1, 0)", BAD, x -> x.drawn(61, 1, 0)));
        all.add(new Refused("image(2)", BAD, x -> x.image(2)));
        all.add(new Refused("restore(2)", BAD, x -> x.restore(2)));
        all.add(new Refused("restore(1)", STATE, x -> x.restore(1)));
        all.add(new Refused("kind(3)", BAD, x -> x.kind(3)));
        all.add(new Refused("as(3, 0)", BAD, x -> x.as(3, 0)));
        all.add(new Refused("as(0, 6)", BAD, x -> x.as(0, 6)));
        all.add(new Refused("as(1, 2)", KIND, x -> x.as(1, 2)));
        all.add(new Refused("ask(3, 0)", BAD, x -> x.ask(3, 0)));
        all.add(new Refused("ask(0, 2)", BAD, x -> x.ask(0, 2)));
        all.add(new Refused("count(8)", BAD, x -> x.count(8)));
        return all;
    }

    private static List<Refused> ofFull() {
        List<Refused> all = new ArrayList<>();
        all.add(new Refused("feed(0)", FULL, x -> x.feed(0)));
        all.add(new Refused("feed(-1)", BAD, x -> x.feed(-1)));
        all.add(new Refused("years(16)", FULL, x -> x.years(16)));
        all.add(new Refused("years(24)", FULL, x -> x.years(24)));
        all.add(new Refused("years(25)", BAD, x -> x.years(25)));
        return all;
    }

    private interface Maker {
        MapItch make();
    }

    /** Of two made alike one is refused something: they answer alike in all that is asked of them then. */
    private static void leavesNoMark(String which, Maker maker, Refused refused) {
        for (int look = 0; look < LOOKS; look++) {
            MapItch x = maker.make();
            MapItch y = maker.make();
            int before = x.status();
            String call = which + ": " + refused.call;
            due(call, refused.asked.applyAsLong(x), refused.answer);
            boolean isFinding = refused.answer <= NULL && refused.answer >= STORE;
            due(call + ", status", x.status(), isFinding ? -1000010 - refused.answer : before);
            if (!refused.call.equals("county()")) {
                due(call + ", fault", x.fault(), y.fault());
            }
            List<Long> ofX = look(x, look);
            List<Long> ofY = look(y, look);
            for (int k = 0; k < ofY.size(); k++) {
                due(call + ", look " + look + ", answer " + k, ofX.get(k), ofY.get(k));
            }
        }
    }

    private static final int LOOKS = 4 + 7;

    private static List<Long> look(MapItch x, int look) {
        List<Long> seen = new ArrayList<>();
        Consumer<Integer> see = answer -> seen.add((long) answer);
        switch (look) {
            case 0: lookAround(x, see); break;
            case 1: lookBack(x, see); break;
            case 2: lookAtImages(x, see); break;
            case 3: lookAtTape(x, see); break;
            default: lookAtRow(x, look - 4, see); break;
        }
        return seen;
    }

    private static void lookAround(MapItch x, Consumer<Integer> see) {
        for (int what = 0; what <= 7; what++) {
            see.accept(x.count(what));
            see.accept(x.trace(what));
        }
        for (int cell = 0; cell < 15; cell++) {
            for (int what = 0; what <= 4; what++) {
                see.accept(x.cell(cell, what));
            }
        }
        for (int one = 0; one < 4; one++) {
            see.accept(x.kind(one));
            for (int what = 0; what <= 3; what++) {
                see.accept(x.surveyor(one, what));
            }
        }
    }

    private static void lookBack(MapItch x, Consumer<Integer> see) {
        for (int k = 0; k < 26; k++) {
            see.accept(x.undo());
            see.accept(x.bits(0));
            see.accept(x.count(4));
        }
    }

    private static void lookAtImages(MapItch x, Consumer<Integer> see) {
        for (int k = 0; k <= 1; k++) {
            see.accept(x.restore(k));
            see.accept(x.count(4));
            for (int cell = 0; cell < 15; cell++) {
                see.accept(x.cell(cell, 0));
                see.accept(x.cell(cell, 1));
            }
        }
    }

    private static void lookAtTape(MapItch x, Consumer<Integer> see) {
        see.accept(x.feed('x'));
        see.accept(x.count(7));
        see.accept(x.county());
        see.accept(x.fault());
        see.accept(x.feed('x'));
    }

    /** Its lane (copy finds another one), its items (a quarrel over one and the same), its length. */
    private static void lookAtRow(MapItch x, int row, Consumer<Integer> see) {
        for (int lane = 0; lane <= 2; lane++) {
            see.accept(x.row(7, lane, 4));
            see.accept(x.copy(row, 0, 7, 0, 0));
            for (int i = 0; i < 5; i++) {
                for (int k = 0; k < 4; k++) {
                    see.accept(x.copy(row, i, 7, k, 1));
                }
                see.accept(x.quarrel(7, 0, 0));
            }
        }
        see.accept(x.drop(row));
    }
}
