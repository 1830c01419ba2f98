import java.math.BigInteger;
import java.util.ArrayDeque;
import java.util.ArrayList;
import java.util.Arrays;
import java.util.Deque;
import java.util.List;

/**
 * The document once more, written apart from MapItch and in the plainest way (cell by cell, set by set, without
 * bits that stand for more than the answer), to hold the program against it in ModelTest.
 */
final class Model {
    static final int NONE = -1000000, BAD = -1000001, STATE = -1000002, FULL = -1000003;

    static final class Man {
        char letter;
        int district;
        int scale;
    }

    static final class Town {
        int shift, by, year;
        int[] land = new int[15], sheet = new int[15], district = new int[15];
        List<Man> men = new ArrayList<>();

        Town twin() {
            Town t = new Town();
            t.shift = shift;
            t.by = by;
            t.year = year;
            t.land = land.clone();
            t.sheet = sheet.clone();
            t.district = district;
            t.men = men;
            return t;
        }

        boolean wrong(int c) {
            return land[c] != sheet[c];
        }

        boolean beside(int a, int b) {
            return Math.abs(a % 5 - b % 5) + Math.abs(a / 5 - b / 5) == 1;
        }

        boolean seam(int c) {
            for (int o = 0; o < 15; o++) {
                if (beside(c, o) && district[o] != district[c]) {
                    return true;
                }
            }
            return false;
        }

        boolean feels(Man m, int c) {
            if (district[c] == m.district) {
                return true;
            }
            for (int o = 0; o < 15; o++) {
                if (beside(c, o) && district[o] == m.district && seam(c)) {
                    return true;
                }
            }
            return false;
        }

        int itchOf(Man m, int c) {
            if (!feels(m, c)) {
                return 0;
            }
            switch (m.letter) {
                case 'p': return m.scale;
                case 'z': return m.scale / 2;
                case 'y': return seam(c) ? 2 * m.scale : m.scale;
                case 'k': return 1;
                default: return seam(c) ? 1 : 0;
            }
        }

        int itch(Man m) {
            int sum = 0;
            for (int c = 0; c < 15; c++) {
                sum += wrong(c) ? itchOf(m, c) : 0;
            }
            return sum;
        }

        boolean allRest() {
            for (Man m : men) {
                if (itch(m) != 0) {
                    return false;
                }
            }
            return true;
        }

        int wrongBits() {
            int bits = 0;
            for (int c = 0; c < 15; c++) {
                bits += wrong(c) ? 1 << c : 0;
            }
            return bits;
        }

        void stroke(int c, int s) {
            sheet[c] = s;
            if (shift != 0) {
                int o = (c + shift) % 15;
                sheet[o] = (sheet[o] + by) % 4;
            }
        }

        void goYear() {
            for (Man m : men) {
                if (m.letter == 'o') {
                    for (int c = 0; c < 15; c++) {
                        if (district[c] == m.district && wrong(c)) {
                            land[c] = sheet[c];
                            break;
                        }
                    }
                }
            }
            year++;
        }
    }

    final int[][] rows = new int[8][];
    final int[] lanes = new int[8];
    final StringBuilder tape = new StringBuilder();
    Town town = null;
    final Town[] images = new Town[2];
    final Deque<Town> past = new ArrayDeque<>();
    final List<Integer> trace = new ArrayList<>();
    int fault = 0;
    int status = 0;

    private int found(int k) {
        status = k;
        return -1000010 - k;
    }

    private int ok(int v) {
        status = 0;
        return v;
    }

    private static boolean out(int v, int least, int most) {
        return v < least || v > most;
    }

    int row(int r, int lane, int n) {
        if (out(r, 0, 7) || out(lane, 0, 2) || n > 40) {
            return BAD;
        }
        if (n < 0) {
            return found(4);
        }
        rows[r] = new int[n];
        lanes[r] = lane;
        return ok(n);
    }

    int set(int r, int i, int v) {
        if (out(r, 0, 7)) {
            return BAD;
        }
        if (rows[r] == null) {
            return found(1);
        }
        if (out(i, 0, rows[r].length - 1)) {
            return found(2);
        }
        int bits = 32 - (8 << lanes[r]);
        rows[r][i] = v << bits >> bits;
        return ok(rows[r][i]);
    }

    int copy(int a, int i, int b, int j, int n) {
        if (out(a, 0, 7) || out(b, 0, 7)) {
            return BAD;
        }
        if (rows[a] == null || rows[b] == null) {
            return found(1);
        }
        if (lanes[a] != lanes[b]) {
            return found(5);
        }
        if (i < 0 || j < 0 || n < 0 || (long) i + n > rows[a].length || (long) j + n > rows[b].length) {
            return found(2);
        }
        int[] ahead = rows[a].clone();
        for (int k = 0; k < n; k++) {
            rows[b][j + k] = ahead[i + k];
        }
        return ok(n);
    }

    int drop(int r) {
        if (out(r, 0, 7)) {
            return BAD;
        }
        if (rows[r] == null) {
            return found(1);
        }
        int n = rows[r].length;
        rows[r] = null;
        return ok(n);
    }

    int feed(int letter) {
        if (out(letter, 0, 255)) {
            return BAD;
        }
        if (tape.length() == 120) {
            return FULL;
        }
        tape.append((char) letter);
        return tape.length();
    }

    /** The forms of the tokens one behind another: a letter, or the numbers as "least-most", or letters in brackets. */
    private static List<String> forms() {
        List<String> forms = new ArrayList<>(List.of("l", "0-14", ",", "0-3", ";"));
        for (String head : List.of("m", "n", "c")) {
            forms.add(head);
            for (int c = 0; c < 15; c++) {
                forms.add(head.equals("c") ? "[efg]" : "[abcd]");
            }
            forms.add(";");
        }
        for (int m = 0; m < 4; m++) {
            forms.addAll(List.of("[pzyko]", "0-2", ",", "1-5", ";"));
        }
        forms.add("[pzyko]");
        return forms;
    }

    private static String tokenAt(String text, int at) {
        int end = at;
        while (end < text.length() && text.charAt(end) >= '0' && text.charAt(end) <= '9') {
            end++;
        }
        return end > at ? text.substring(at, end) : text.substring(at, Math.min(at + 1, text.length()));
    }

    private static int faultOf(String token, String form) {
        if (form.length() > 2 && form.charAt(1) == '-') {
            if (!token.matches("[0-9]{1,2}")) {
                return 1;
            }
            String[] ends = form.split("-");
            return out(Integer.parseInt(token), Integer.parseInt(ends[0]), Integer.parseInt(ends[1])) ? 2 : 0;
        }
        boolean fits = form.startsWith("[") ? token.matches(form) : token.equals(form);
        return fits ? 0 : 1;
    }

    int county() {
        String text = tape.toString();
        tape.setLength(0);
        List<String> forms = forms();
        List<String> tokens = new ArrayList<>();
        int at = 0;
        for (int k = 0; k < forms.size(); k++) {
            boolean mayEnd = k >= 56 && (k - 56) % 5 == 0;
            if (at == text.length() && mayEnd) {
                break;
            }
            String token = tokenAt(text, at);
            int number = faultOf(token, forms.get(k));
            number = number == 0 && k == forms.size() - 1 ? 3 : number;
            if (number != 0) {
                fault = number;
                return -1000100 - at;
            }
            tokens.add(token);
            at += token.length();
        }
        town = townOf(tokens);
        past.clear();
        return town.men.size();
    }

    private static Town townOf(List<String> tokens) {
        Town t = new Town();
        t.shift = Integer.parseInt(tokens.get(1));
        t.by = Integer.parseInt(tokens.get(3));
        for (int c = 0; c < 15; c++) {
            t.land[c] = tokens.get(6 + c).charAt(0) - 'a';
            t.sheet[c] = tokens.get(23 + c).charAt(0) - 'a';
            t.district[c] = tokens.get(40 + c).charAt(0) - 'e';
        }
        for (int k = 56; k < tokens.size(); k += 5) {
            Man m = new Man();
            m.letter = tokens.get(k).charAt(0);
            m.district = Integer.parseInt(tokens.get(k + 1));
            m.scale = Integer.parseInt(tokens.get(k + 3));
            t.men.add(m);
        }
        return t;
    }

    int fault() {
        return fault;
    }

    private void act() {
        past.addLast(town.twin());
        if (past.size() > 24) {
            past.removeFirst();
        }
    }

    int undo() {
        if (past.isEmpty()) {
            return STATE;
        }
        town = past.removeLast();
        return past.size();
    }

    int stroke(int c, int s) {
        if (town == null) {
            return STATE;
        }
        if (out(c, 0, 14) || out(s, 0, 3)) {
            return BAD;
        }
        if (town.sheet[c] == s) {
            return STATE;
        }
        act();
        town.stroke(c, s);
        return town.wrongBits();
    }

    int brook(int c) {
        if (town == null) {
            return STATE;
        }
        if (out(c, 0, 14)) {
            return BAD;
        }
        act();
        town.land[c] = (town.land[c] + 1) % 4;
        return town.land[c];
    }

    private boolean noMan(int one) {
        return town == null || out(one, 0, town.men.size() - 1);
    }

    int oblige(int one) {
        if (noMan(one)) {
            return BAD;
        }
        act();
        int many = 0;
        for (int c = 0; c < 15; c++) {
            if (town.wrong(c) && town.district[c] == town.men.get(one).district) {
                town.land[c] = town.sheet[c];
                many++;
            }
        }
        return many;
    }

    int years(int n) {
        if (town == null) {
            return STATE;
        }
        if (out(n, 1, 24)) {
            return BAD;
        }
        if (town.year + n > 999) {
            return FULL;
        }
        for (int k = 0; k < n; k++) {
            act();
            town.goYear();
        }
        return town.wrongBits();
    }

    int cell(int c, int what) {
        if (town == null) {
            return STATE;
        }
        if (out(c, 0, 14) || out(what, 0, 4)) {
            return BAD;
        }
        int who = 0;
        for (int m = 0; m < town.men.size(); m++) {
            who += town.feels(town.men.get(m), c) ? 1 << m : 0;
        }
        return new int[] {town.land[c], town.sheet[c], town.district[c], town.seam(c) ? 1 : 0, who}[what];
    }

    int surveyor(int one, int what) {
        if (noMan(one) || out(what, 0, 3)) {
            return BAD;
        }
        Man m = town.men.get(one);
        int felt = 0;
        for (int c = 0; c < 15; c++) {
            felt += town.feels(m, c) ? 1 << c : 0;
        }
        return new int[] {m.district, m.scale, town.itch(m), felt}[what];
    }

    int bits(int what) {
        if (town == null) {
            return STATE;
        }
        if (out(what, 0, 2)) {
            return BAD;
        }
        int seams = 0;
        for (int c = 0; c < 15; c++) {
            seams += town.seam(c) ? 1 << c : 0;
        }
        int rest = 0;
        for (int m = 0; m < town.men.size(); m++) {
            rest += town.itch(town.men.get(m)) == 0 ? 1 << m : 0;
        }
        return new int[] {town.wrongBits(), seams, rest}[what];
    }

    int strokes(int isTrue, int k) {
        if (town == null) {
            return STATE;
        }
        if (out(isTrue, 0, 1) || out(k, -1, 1)) {
            return BAD;
        }
        int[] row = null;
        for (int many = 0; many <= 2 && row == null; many++) {
            row = rowOf(town, many, isTrue == 1);
        }
        if (row == null) {
            return NONE;
        }
        return k == -1 ? row.length : k < row.length ? row[k] : NONE;
    }

    private static int[] rowOf(Town t, int many, boolean isTrue) {
        if (many == 0) {
            return (isTrue ? t.wrongBits() == 0 : t.allRest()) ? new int[0] : null;
        }
        for (int c = 0; c < 15; c++) {
            for (int s = 0; s < 4; s++) {
                if (t.sheet[c] != s) {
                    Town then = t.twin();
                    then.stroke(c, s);
                    int[] rest = rowOf(then, many - 1, isTrue);
                    if (rest != null) {
                        int[] row = new int[many];
                        row[0] = 4 * c + s;
                        System.arraycopy(rest, 0, row, 1, many - 1);
                        return row;
                    }
                }
            }
        }
        return null;
    }

    int unfelt() {
        if (town == null) {
            return STATE;
        }
        int bits = 0;
        for (int c = 0; c < 15; c++) {
            boolean isFelt = false;
            for (Man m : town.men) {
                isFelt |= town.itchOf(m, c) > 0;
            }
            bits += town.wrong(c) && !isFelt ? 1 << c : 0;
        }
        return bits;
    }

    private int refusal(int r, int i, int what) {
        if (town == null) {
            return STATE;
        }
        if (out(r, 0, 7) || out(what, 0, 1)) {
            return BAD;
        }
        if (rows[r] == null) {
            return found(1);
        }
        if (i < 0 || (long) i + town.men.size() > rows[r].length) {
            return found(2);
        }
        return ok(0);
    }

    private List<Integer> sets(int r, int i, int least, int most) {
        List<Integer> sets = new ArrayList<>();
        for (int bits = 0; bits < 32768; bits++) {
            int size = Integer.bitCount(bits);
            boolean fits = size >= least && size <= most;
            for (int m = 0; m < town.men.size() && fits; m++) {
                int itch = 0;
                for (int c = 0; c < 15; c++) {
                    itch += (bits >> c) % 2 == 1 ? town.itchOf(town.men.get(m), c) : 0;
                }
                fits = itch == rows[r][i + m];
            }
            if (fits) {
                sets.add(bits);
            }
        }
        return sets;
    }

    int each(int r, int i) {
        int refused = refusal(r, i, 0);
        if (refused != 0) {
            return refused;
        }
        int bits = 0;
        for (int set : sets(r, i, 1, 1)) {
            bits += set;
        }
        return bits;
    }

    int fit(int r, int i, int what) {
        int refused = refusal(r, i, what);
        if (refused != 0) {
            return refused;
        }
        List<Integer> sets = sets(r, i, 0, 2);
        if (what == 0) {
            return sets.size();
        }
        for (int size = 0; size <= 2; size++) {
            for (int set : sets) {
                if (Integer.bitCount(set) == size) {
                    return set;
                }
            }
        }
        return NONE;
    }

    int scratch(int r, int i) {
        int refused = refusal(r, i, 0);
        if (refused != 0) {
            return refused;
        }
        List<Integer> sets = sets(r, i, 0, 2);
        int best = NONE;
        int bestFar = Integer.MAX_VALUE;
        for (int c = 0; c < 15 && !sets.isEmpty(); c++) {
            int in = 0;
            for (int set : sets) {
                in += (set >> c) % 2;
            }
            int far = Math.abs(2 * in - sets.size());
            if (far < bestFar) {
                best = c;
                bestFar = far;
            }
        }
        return best;
    }

    int men(int what) {
        if (town == null) {
            return STATE;
        }
        if (out(what, 0, 1)) {
            return BAD;
        }
        for (int size = 0; size <= town.men.size(); size++) {
            for (int bits = 0; bits < 1 << town.men.size(); bits++) {
                if (Integer.bitCount(bits) == size && feelAllSeams(bits)) {
                    return what == 0 ? size : bits;
                }
            }
        }
        return NONE;
    }

    private boolean feelAllSeams(int bits) {
        for (int c = 0; c < 15; c++) {
            boolean isFelt = !town.seam(c);
            for (int m = 0; m < town.men.size(); m++) {
                isFelt |= (bits >> m) % 2 == 1 && town.feels(town.men.get(m), c);
            }
            if (!isFelt) {
                return false;
            }
        }
        return true;
    }

    int sign(int k) {
        if (town == null) {
            return STATE;
        }
        if (out(k, 0, 3)) {
            return BAD;
        }
        List<Integer> order = new ArrayList<>();
        for (int m = 0; m < town.men.size(); m++) {
            order.add(m);
        }
        order.sort((a, b) -> town.itch(town.men.get(a)) - town.itch(town.men.get(b)));
        return k < order.size() ? order.get(k) : NONE;
    }

    int settled(int what) {
        if (town == null) {
            return STATE;
        }
        if (out(what, 0, 1)) {
            return BAD;
        }
        Town t = town.twin();
        for (int gone = 0; gone <= 40; gone++) {
            if (t.allRest()) {
                return what == 0 ? gone : t.wrongBits();
            }
            if (gone < 40) {
                t.goYear();
            }
        }
        return what == 0 ? NONE : t.wrongBits();
    }

    long drawnSo(int c, int p, int n, int what) {
        if (town == null) {
            return STATE;
        }
        if (out(c, 0, 14) || out(p, 0, 10) || out(n, 0, 6) || out(what, 0, 1)) {
            return BAD;
        }
        long[] ways = new long[4];
        ways[town.land[c]] = 1;
        long all = 1;
        for (int k = 0; k < n; k++) {
            long[] then = new long[4];
            for (int s = 0; s < 4; s++) {
                then[s] += ways[s] * (10 - p);
                then[(s + 1) % 4] += ways[s] * p;
            }
            ways = then;
            all *= 10;
        }
        return lowest(ways[town.sheet[c]], all, what);
    }

    private static long lowest(long above, long below, int what) {
        BigInteger a = BigInteger.valueOf(above);
        BigInteger b = BigInteger.valueOf(below);
        BigInteger g = a.gcd(b);
        return (what == 0 ? a : b).divide(g).longValue() * b.signum();
    }

    int quarrel(int r, int i, int what) {
        if (out(r, 0, 7) || out(what, 0, 1)) {
            return BAD;
        }
        if (rows[r] == null) {
            return found(1);
        }
        if (i < 0 || (long) i + 4 > rows[r].length) {
            return found(2);
        }
        int[] g = Arrays.copyOfRange(rows[r], i, i + 4);
        for (int v : g) {
            if (out(v, -20, 20)) {
                return BAD;
            }
        }
        return ok((int) worth(g, what));
    }

    /** The best of the least that the first gets, over all odds where that can bend: at the ends and where two lines meet. */
    private static long worth(int[] g, int what) {
        long[][] odds = {{0, 1}, {1, 1}, {0, 0}};
        long meets = g[0] - g[2] - g[1] + g[3];
        if (meets != 0) {
            odds[2] = meets > 0 ? new long[] {g[3] - g[2], meets} : new long[] {g[2] - g[3], -meets};
        }
        long above = 0;
        long below = 0;
        for (long[] o : odds) {
            if (o[1] > 0 && o[0] >= 0 && o[0] <= o[1]) {
                long least = Math.min(o[0] * g[0] + (o[1] - o[0]) * g[2], o[0] * g[1] + (o[1] - o[0]) * g[3]);
                if (below == 0 || least * below > above * o[1]) {
                    above = least;
                    below = o[1];
                }
            }
        }
        return lowest(above, below, what);
    }

    int drawn(int n, int seed, int what) {
        if (town == null) {
            return STATE;
        }
        if (out(n, 0, 60) || out(seed, 1, 999999) || out(what, 0, 1)) {
            return BAD;
        }
        BigInteger x = BigInteger.valueOf(seed);
        Town t = town.twin();
        int restful = 0;
        for (int k = 0; k < n; k++) {
            x = x.multiply(BigInteger.valueOf(16807)).mod(BigInteger.valueOf(2147483647));
            int c = x.mod(BigInteger.valueOf(15)).intValue();
            t.land[c] = (t.land[c] + 1) % 4;
            t.goYear();
            restful += t.allRest() ? 1 : 0;
        }
        int itch = 0;
        for (Man m : t.men) {
            itch += t.itch(m);
        }
        return what == 0 ? itch : restful;
    }

    int image(int k) {
        if (out(k, 0, 1)) {
            return BAD;
        }
        if (town == null) {
            return STATE;
        }
        images[k] = town.twin();
        return 1;
    }

    int restore(int k) {
        if (out(k, 0, 1)) {
            return BAD;
        }
        if (images[k] == null) {
            return STATE;
        }
        town = images[k].twin();
        past.clear();
        return 1;
    }

    int kind(int one) {
        return noMan(one) ? BAD : " pzyko".indexOf(town.men.get(one).letter);
    }

    int as(int one, int kind) {
        if (noMan(one) || out(kind, 0, 5)) {
            return BAD;
        }
        String[] whose = {"pzyko", "pzy", "z", "y", "ko", "o"};
        return whose[kind].indexOf(town.men.get(one).letter) >= 0 ? ok(one) : found(3);
    }

    int ask(int one, int what) {
        if (noMan(one) || out(what, 0, 1)) {
            return BAD;
        }
        trace.clear();
        return what == 0 ? size(one) : mark(one);
    }

    private int size(int one) {
        switch (town.men.get(one).letter) {
            case 'z': trace.add(12); return -size11(one);
            case 'k': return size13(one);
            case 'o': trace.add(14); return 2 * size13(one);
            default: return size11(one);
        }
    }

    private int size11(int one) {
        trace.add(11);
        trace.add(10);
        return town.itch(town.men.get(one)) + mark(one);
    }

    private int size13(int one) {
        trace.add(13);
        trace.add(10);
        return town.itch(town.men.get(one)) - 100;
    }

    private int mark(int one) {
        switch (town.men.get(one).letter) {
            case 'z': trace.add(24); return 2 * mark21(one);
            case 'y': trace.add(22); return mark21(one) - 1000;
            case 'p': return mark21(one);
            default:
                trace.add(23);
                trace.add(20);
                return one - size(one);
        }
    }

    private int mark21(int one) {
        trace.add(21);
        trace.add(20);
        return one + town.men.get(one).scale;
    }

    int trace(int i) {
        return i >= 0 && i < Math.min(16, trace.size()) ? trace.get(i) : NONE;
    }

    int count(int what) {
        if (out(what, 0, 7)) {
            return BAD;
        }
        int present = 0;
        for (int[] r : rows) {
            present += r == null ? 0 : 1;
        }
        if (what == 0) {
            return present;
        }
        if (what == 7) {
            return tape.length();
        }
        if (town == null) {
            return 0;
        }
        return new int[] {0, town.men.size(), town.shift, town.by, town.year,
            Integer.bitCount(town.wrongBits()), past.size()}[what];
    }

    int status() {
        return status;
    }
}
