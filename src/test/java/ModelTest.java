import java.util.Random;

/** Runs of calls by draws (from fixed seeds), each answer held against that of the Model. */
public final class ModelTest {
    private static final int RUNS = 1500, CALLS = 260;

    private final Random random;
    private final MapItch x = new MapItch();
    private final Model y = new Model();
    private final StringBuilder story = new StringBuilder();
    private boolean differs = false;

    private ModelTest(long seed) {
        random = new Random(seed);
    }

    public static void main(String[] args) {
        int told = 0;
        for (int run = 0; run < RUNS; run++) {
            ModelTest test = new ModelTest(run);
            test.go();
            Check.due("run " + run + ": differs", test.differs ? 1 : 0, 0);
            if (test.differs && told++ < 3) {
                System.out.println(test.story);
            }
        }
        Check.end();
    }

    private void go() {
        for (int k = 0; k < CALLS && !differs; k++) {
            if (k < 1 && random.nextInt(8) != 0 || random.nextInt(40) == 0) {
                tell();
            }
            step(random.nextInt(34));
        }
    }

    private void same(String call, long got, long due) {
        story.append(call).append(" -> ").append(got);
        if (got != due) {
            differs = true;
            story.append(", due is ").append(due);
        }
        story.append('\n');
    }

    private int in(int least, int most) {
        if (random.nextInt(25) == 0) {
            int[] odd = {least - 1, most + 1, Integer.MAX_VALUE, Integer.MIN_VALUE, -1, 0};
            return odd[random.nextInt(odd.length)];
        }
        return least + random.nextInt(most - least + 1);
    }

    private String letters(String of, String like, int changes) {
        StringBuilder text = new StringBuilder(like);
        for (int k = 0; k < changes; k++) {
            text.setCharAt(random.nextInt(15), of.charAt(random.nextInt(of.length())));
        }
        return text.toString();
    }

    private void tell() {
        String land = letters("abcd", Check.A15, random.nextInt(20));
        String sheet = letters("abcd", land, random.nextInt(random.nextInt(6) + 1));
        String[] maps = {Check.COLUMNS, "eeeeeeeeeeeeeee", "eeeeefffffggggg", "efggeefggeefggg", "efefefefefefefe"};
        String districts = letters("efg", maps[random.nextInt(maps.length)], random.nextInt(random.nextInt(9) + 1));
        String law = random.nextInt(3) == 0 ? "0," + random.nextInt(4) : random.nextInt(15) + "," + random.nextInt(4);
        StringBuilder text = new StringBuilder(Check.text(law, land, sheet, districts, ""));
        int men = random.nextInt(random.nextInt(6) == 0 ? 6 : 5);
        for (int k = 0; k < men; k++) {
            text.append("pzyko".charAt(random.nextInt(5))).append(random.nextInt(3)).append(',');
            text.append(1 + random.nextInt(5)).append(';');
        }
        if (random.nextInt(3) == 0) {
            spoil(text);
        }
        for (int k = 0; k < text.length(); k++) {
            same("feed " + text.charAt(k), x.feed(text.charAt(k)), y.feed(text.charAt(k)));
        }
        same("county " + text, x.county(), y.county());
        same("fault", x.fault(), y.fault());
    }

    private void spoil(StringBuilder text) {
        String odd = "abcdefghlmnpzyko0123459,;; \u00e9A";
        for (int k = random.nextInt(3); k >= 0; k--) {
            if (text.length() == 0) {
                return;
            }
            int at = random.nextInt(text.length());
            char letter = odd.charAt(random.nextInt(odd.length()));
            switch (random.nextInt(4)) {
                case 0: text.setCharAt(at, letter); break;
                case 1: text.insert(at, letter); break;
                case 2: text.deleteCharAt(at); break;
                default: text.setLength(Math.max(at, 1)); break;
            }
        }
    }

    private void step(int call) {
        if (call < 8) {
            rows(call);
        } else if (call < 17) {
            acts(call);
        } else if (call < 26) {
            foretold(call);
        } else {
            asked(call);
        }
        same("status", x.status(), y.status());
    }

    private void rows(int call) {
        int a = in(0, 2), b = in(0, 2), i = in(0, 6), j = in(0, 6), n = in(0, 6), v = random.nextInt();
        switch (call) {
            case 0: {
                int most = random.nextInt(3) == 0 ? in(0, 40) : n;
                same("row " + a + " " + b + " " + most, x.row(a, b, most), y.row(a, b, most));
                break;
            }
            case 1: same("set " + a + " " + i + " " + v, x.set(a, i, v), y.set(a, i, v)); break;
            case 2: same("copy", x.copy(a, i, b, j, n), y.copy(a, i, b, j, n)); break;
            case 3: {
                if (random.nextInt(6) == 0) {
                    same("drop " + a, x.drop(a), y.drop(a));
                }
                break;
            }
            case 4: {
                int letter = random.nextInt(6) == 0 ? in(0, 255) : -1;
                same("feed " + letter, x.feed(letter), y.feed(letter));
                break;
            }
            default: told(); break;
        }
    }

    /** A row that tells itches of some wrong cells, at times a little off, or four stakes. */
    private void told() {
        int row = random.nextInt(3), from = random.nextInt(3), lane = random.nextInt(3);
        same("row", x.row(row, lane, from + 4), y.row(row, lane, from + 4));
        int cells = 0;
        for (int k = random.nextInt(3); k > 0; k--) {
            cells |= 1 << random.nextInt(15);
        }
        boolean stakes = random.nextInt(3) == 0;
        for (int k = 0; k < 4; k++) {
            int item = stakes ? in(-20, 20) : 0;
            if (!stakes && y.town != null && k < y.town.men.size()) {
                for (int c = 0; c < 15; c++) {
                    item += (cells >> c) % 2 == 1 ? y.town.itchOf(y.town.men.get(k), c) : 0;
                }
                item += random.nextInt(12) == 0 ? 1 : 0;
            }
            same("set " + item, x.set(row, from + k, item), y.set(row, from + k, item));
        }
        for (int what = 0; what < 2; what++) {
            same("fit " + what, x.fit(row, from, what), y.fit(row, from, what));
            same("quarrel " + what, x.quarrel(row, from, what), y.quarrel(row, from, what));
        }
        same("each", x.each(row, from), y.each(row, from));
        same("scratch", x.scratch(row, from), y.scratch(row, from));
    }

    private void acts(int call) {
        int c = in(0, 14), s = in(0, 3), k = in(0, 1), n = random.nextInt(4) == 0 ? in(1, 24) : in(1, 2);
        switch (call) {
            case 8: same("undo", x.undo(), y.undo()); break;
            case 9: same("stroke " + c + " " + s, x.stroke(c, s), y.stroke(c, s)); break;
            case 10: same("brook " + c, x.brook(c), y.brook(c)); break;
            case 11: same("oblige " + s, x.oblige(s), y.oblige(s)); break;
            case 12: same("years " + n, x.years(n), y.years(n)); break;
            case 13: same("image " + k, x.image(k), y.image(k)); break;
            case 14: same("restore " + k, x.restore(k), y.restore(k)); break;
            case 15: same("stroke", x.stroke(c, s), y.stroke(c, s)); break;
            default: same("brook", x.brook(c), y.brook(c)); break;
        }
    }

    private void foretold(int call) {
        int what = in(0, 1), k = in(-1, 1), c = in(0, 14), p = in(0, 10), n = in(0, 6), i = in(0, 3);
        int seed = in(1, 999999), many = in(0, 60);
        switch (call) {
            case 17: same("strokes " + what + " " + k, x.strokes(what, k), y.strokes(what, k)); break;
            case 18: same("unfelt", x.unfelt(), y.unfelt()); break;
            case 19: same("men " + what, x.men(what), y.men(what)); break;
            case 20: same("sign " + i, x.sign(i), y.sign(i)); break;
            case 21: same("settled " + what, x.settled(what), y.settled(what)); break;
            case 22: same("drawnSo", x.drawnSo(c, p, n, what), y.drawnSo(c, p, n, what)); break;
            case 23: same("drawn", x.drawn(many, seed, what), y.drawn(many, seed, what)); break;
            case 24: same("fit", x.fit(i, n, what), y.fit(i, n, what)); break;
            default: {
                same("each", x.each(i, n), y.each(i, n));
                same("scratch", x.scratch(i, n), y.scratch(i, n));
                same("quarrel", x.quarrel(i, n, what), y.quarrel(i, n, what));
                break;
            }
        }
    }

    private void asked(int call) {
        int one = in(0, 3), what = in(0, 1), kind = in(0, 5), i = in(0, 7), c = in(0, 14);
        switch (call) {
            case 26: same("kind " + one, x.kind(one), y.kind(one)); break;
            case 27: same("as " + one + " " + kind, x.as(one, kind), y.as(one, kind)); break;
            case 28: same("ask " + one + " " + what, x.ask(one, what), y.ask(one, what)); break;
            case 29: same("trace " + i, x.trace(i), y.trace(i)); break;
            case 30: same("count " + i, x.count(i), y.count(i)); break;
            case 31: same("cell " + c + " " + kind, x.cell(c, kind), y.cell(c, kind)); break;
            case 32: same("surveyor " + one + " " + i, x.surveyor(one, i), y.surveyor(one, i)); break;
            default: same("bits " + i, x.bits(i), y.bits(i)); break;
        }
    }
}
