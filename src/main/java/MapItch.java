/** A land, a sheet of it, and surveyors who itch where the sheet is wrong. The promises are in DOC.md. */
public final class MapItch {
    public static final int NONE = -1000000, BAD = -1000001, STATE = -1000002, FULL = -1000003;

    private static final int FOUND = -1000010;
    private static final int FOUND_NULL = 1, FOUND_PLACE = 2, FOUND_KIND = 3, FOUND_SIZE = 4, FOUND_STORE = 5;
    private static final int FAULT_AT = -1000100;

    private static final int CELLS = 15, WIDTH = 5, ALL_CELLS = 32767, LEFT_EDGE = 1057, RIGHT_EDGE = 16912;
    private static final int SORTS = 4, DISTRICTS = 3, SURVEYORS = 4, IMAGES = 2, TOLD = 4;
    private static final int PLAIN = 1, LAZY = 2, TENDER = 3, CLERK = 4, OBLIGED = 5, KINDS = 6;
    private static final int MOST_YEARS = 999, YEARS_AT_ONCE = 24, YEARS_TO_SETTLE = 40;
    private static final int MOST_DRAWN_YEARS = 60, MOST_SEED = 999999;
    private static final int ODDS = 10, MOST_BROOK_YEARS = 6, STAKE = 20;

    private final Rows rows;
    private final Reader reader;
    private final County now;
    private final County draft;
    private final County[] images;
    private final Acts acts;
    private final Asks asks;
    private final Plan plan;
    private final Fits fits;
    private final int[] told;
    private int latestFault;
    private int latestFinding;

    public MapItch() {
        rows = new Rows();
        reader = new Reader();
        now = new County();
        draft = new County();
        images = new County[IMAGES];
        for (int k = 0; k < IMAGES; k++) {
            images[k] = new County();
        }
        acts = new Acts();
        asks = new Asks();
        plan = new Plan();
        fits = new Fits();
        told = new int[TOLD];
    }

    // ---- rows

    public int row(int row, int lane, int n) {
        if (!Rows.isRow(row) || !Rows.isLane(lane) || n > Rows.ITEMS) {
            return BAD;
        }
        if (n < 0) {
            return found(FOUND_SIZE);
        }
        rows.make(row, lane, n);
        return sound(n);
    }

    public int set(int row, int i, int v) {
        if (!Rows.isRow(row)) {
            return BAD;
        }
        int refusal = refusalOfPlaces(row, i, 1);
        return refusal != 0 ? refusal : sound(rows.put(row, i, v));
    }

    public int copy(int a, int i, int b, int j, int n) {
        if (!Rows.isRow(a) || !Rows.isRow(b)) {
            return BAD;
        }
        if (rows.isMissing(a) || rows.isMissing(b)) {
            return found(FOUND_NULL);
        }
        if (!rows.areOfOneLane(a, b)) {
            return found(FOUND_STORE);
        }
        if (!rows.hasPlaces(a, i, n) || !rows.hasPlaces(b, j, n)) {
            return found(FOUND_PLACE);
        }
        rows.move(a, i, b, j, n);
        return sound(n);
    }

    public int drop(int row) {
        if (!Rows.isRow(row)) {
            return BAD;
        }
        return rows.isMissing(row) ? found(FOUND_NULL) : sound(rows.remove(row));
    }

    // ---- what is told

    public int feed(int letter) {
        if (letter < 0 || letter > 255) {
            return BAD;
        }
        return reader.isFull() ? FULL : reader.add(letter);
    }

    public int county() {
        reader.read(draft);
        if (reader.faultFound != 0) {
            latestFault = reader.faultFound;
            return FAULT_AT - reader.at;
        }
        now.become(draft);
        acts.forgetAll();
        return now.men;
    }

    public int fault() {
        return latestFault;
    }

    public int undo() {
        if (acts.kept == 0) {
            return STATE;
        }
        acts.takeBack(now);
        return acts.kept;
    }

    // ---- what is done

    public int stroke(int cell, int sort) {
        if (!now.stands) {
            return STATE;
        }
        if (!isCell(cell) || sort < 0 || sort >= SORTS) {
            return BAD;
        }
        if (Planes.sortAt(now.sheet, cell) == sort) {
            return STATE;
        }
        acts.keep(now);
        now.sheet = now.sheetAfterStroke(now.sheet, SORTS * cell + sort);
        return now.wrongCells();
    }

    public int brook(int cell) {
        if (!now.stands) {
            return STATE;
        }
        if (!isCell(cell)) {
            return BAD;
        }
        acts.keep(now);
        now.land = Planes.further(now.land, cell, 1);
        return Planes.sortAt(now.land, cell);
    }

    public int oblige(int surveyor) {
        if (!now.hasSurveyor(surveyor)) {
            return BAD;
        }
        acts.keep(now);
        int cells = now.wrongCells() & now.ownCells(surveyor);
        now.land = Planes.taken(now.land, now.sheet, cells);
        return Integer.bitCount(cells);
    }

    public int years(int n) {
        if (!now.stands) {
            return STATE;
        }
        if (n < 1 || n > YEARS_AT_ONCE) {
            return BAD;
        }
        if (now.year + n > MOST_YEARS) {
            return FULL;
        }
        for (int gone = 0; gone < n; gone++) {
            acts.keep(now);
            now.land = now.landAfterYear(now.land);
            now.year++;
        }
        return now.wrongCells();
    }

    public int cell(int cell, int what) {
        if (!now.stands) {
            return STATE;
        }
        if (!isCell(cell)) {
            return BAD;
        }
        switch (what) {
            case 0: return Planes.sortAt(now.land, cell);
            case 1: return Planes.sortAt(now.sheet, cell);
            case 2: return now.districtOf(cell);
            case 3: return now.seams >> cell & 1;
            case 4: return now.whoFeels(cell);
            default: return BAD;
        }
    }

    public int surveyor(int surveyor, int what) {
        if (!now.hasSurveyor(surveyor)) {
            return BAD;
        }
        switch (what) {
            case 0: return now.districts[surveyor];
            case 1: return now.scales[surveyor];
            case 2: return now.itch(surveyor, now.wrongCells());
            case 3: return now.felt[surveyor];
            default: return BAD;
        }
    }

    public int bits(int what) {
        if (!now.stands) {
            return STATE;
        }
        switch (what) {
            case 0: return now.wrongCells();
            case 1: return now.seams;
            case 2: return now.whoRests(now.wrongCells());
            default: return BAD;
        }
    }

    // ---- foretold

    public int strokes(int isTrue, int k) {
        if (!now.stands) {
            return STATE;
        }
        if (!isNoughtOrOne(isTrue) || k < -1 || k > 1) {
            return BAD;
        }
        plan.seek(now, isTrue == 1);
        if (k < 0) {
            return plan.fewest;
        }
        return k == 0 ? plan.first : plan.second;
    }

    public int unfelt() {
        return now.stands ? now.wrongCells() & ~now.itching : STATE;
    }

    public int each(int row, int i) {
        int refusal = refusalOfTold(row, i, 0);
        if (refusal != 0) {
            return refusal;
        }
        hear(row, i, now.men);
        int cells = 0;
        for (int cell = 0; cell < CELLS; cell++) {
            if (now.itchesAsTold(1 << cell, told)) {
                cells |= 1 << cell;
            }
        }
        return sound(cells);
    }

    public int fit(int row, int i, int what) {
        int refusal = refusalOfTold(row, i, what);
        if (refusal != 0) {
            return refusal;
        }
        hear(row, i, now.men);
        fits.gather(now, told);
        return sound(what == 0 ? fits.many : fits.best);
    }

    public int scratch(int row, int i) {
        int refusal = refusalOfTold(row, i, 0);
        if (refusal != 0) {
            return refusal;
        }
        hear(row, i, now.men);
        fits.gather(now, told);
        return sound(fits.nearestToHalf());
    }

    public int men(int what) {
        if (!now.stands) {
            return STATE;
        }
        if (!isNoughtOrOne(what)) {
            return BAD;
        }
        int fewest = now.fewestMen();
        return what == 1 || fewest == NONE ? fewest : Integer.bitCount(fewest);
    }

    public int sign(int k) {
        if (!now.stands) {
            return STATE;
        }
        return k < 0 || k >= SURVEYORS ? BAD : now.signer(k);
    }

    public int settled(int what) {
        if (!now.stands) {
            return STATE;
        }
        if (!isNoughtOrOne(what)) {
            return BAD;
        }
        int land = now.land;
        int gone = 0;
        for (int year = 0; year < YEARS_TO_SETTLE && !now.allRestOn(land); year++) {
            land = now.landAfterYear(land);
            gone++;
        }
        if (what == 1) {
            return Planes.wrong(land, now.sheet);
        }
        return now.allRestOn(land) ? gone : NONE;
    }

    public long drawnSo(int cell, int p, int n, int what) {
        if (!now.stands) {
            return STATE;
        }
        if (!isCell(cell) || p < 0 || p > ODDS || n < 0 || n > MOST_BROOK_YEARS || !isNoughtOrOne(what)) {
            return BAD;
        }
        int behind = Math.floorMod(Planes.sortAt(now.sheet, cell) - Planes.sortAt(now.land, cell), SORTS);
        return Fraction.part(Fraction.waysToMove(behind, p, n), Fraction.power(ODDS, n), what);
    }

    public int quarrel(int row, int i, int what) {
        if (!Rows.isRow(row) || !isNoughtOrOne(what)) {
            return BAD;
        }
        int refusal = refusalOfPlaces(row, i, TOLD);
        if (refusal != 0) {
            return refusal;
        }
        hear(row, i, TOLD);
        for (int k = 0; k < TOLD; k++) {
            if (told[k] < -STAKE || told[k] > STAKE) {
                return BAD;
            }
        }
        return sound(Fraction.worth(told[0], told[1], told[2], told[3], what));
    }

    public int drawn(int n, int seed, int what) {
        if (!now.stands) {
            return STATE;
        }
        if (n < 0 || n > MOST_DRAWN_YEARS || seed < 1 || seed > MOST_SEED || !isNoughtOrOne(what)) {
            return BAD;
        }
        long draw = seed;
        int land = now.land;
        int restful = 0;
        for (int year = 0; year < n; year++) {
            draw = draw * 16807 % 2147483647;
            land = now.landAfterYear(Planes.further(land, (int) (draw % CELLS), 1));
            if (now.allRestOn(land)) {
                restful++;
            }
        }
        return what == 0 ? now.itchOfAll(Planes.wrong(land, now.sheet)) : restful;
    }

    public int image(int k) {
        if (!isNoughtOrOne(k)) {
            return BAD;
        }
        if (!now.stands) {
            return STATE;
        }
        images[k].become(now);
        return 1;
    }

    public int restore(int k) {
        if (!isNoughtOrOne(k)) {
            return BAD;
        }
        if (!images[k].stands) {
            return STATE;
        }
        now.become(images[k]);
        acts.forgetAll();
        return 1;
    }

    // ---- asked

    public int kind(int one) {
        return now.hasSurveyor(one) ? now.kinds[one] : BAD;
    }

    public int as(int one, int kind) {
        if (!now.hasSurveyor(one) || kind < 0 || kind >= KINDS) {
            return BAD;
        }
        return Asks.isOne(now.kinds[one], kind) ? sound(one) : found(FOUND_KIND);
    }

    public int ask(int one, int what) {
        if (!now.hasSurveyor(one) || !isNoughtOrOne(what)) {
            return BAD;
        }
        return asks.answer(now, one, what);
    }

    public int trace(int i) {
        return asks.left(i);
    }

    public int count(int what) {
        switch (what) {
            case 0: return rows.present();
            case 1: return now.men;
            case 2: return now.shift;
            case 3: return now.by;
            case 4: return now.year;
            case 5: return Integer.bitCount(now.wrongCells());
            case 6: return acts.kept;
            case 7: return reader.length;
            default: return BAD;
        }
    }

    public int status() {
        return latestFinding;
    }

    private int found(int finding) {
        latestFinding = finding;
        return FOUND - finding;
    }

    private int sound(int answer) {
        latestFinding = 0;
        return answer;
    }

    private int refusalOfPlaces(int row, int i, int n) {
        if (rows.isMissing(row)) {
            return found(FOUND_NULL);
        }
        return rows.hasPlaces(row, i, n) ? 0 : found(FOUND_PLACE);
    }

    private int refusalOfTold(int row, int i, int what) {
        if (!now.stands) {
            return STATE;
        }
        if (!Rows.isRow(row) || !isNoughtOrOne(what)) {
            return BAD;
        }
        return refusalOfPlaces(row, i, now.men);
    }

    private void hear(int row, int i, int n) {
        for (int k = 0; k < TOLD; k++) {
            told[k] = k < n ? rows.at(row, i + k) : 0;
        }
    }

    private static boolean isCell(int cell) {
        return cell >= 0 && cell < CELLS;
    }

    private static boolean isNoughtOrOne(int n) {
        return n == 0 || n == 1;
    }

    /** Rows 0 .. 7; a length below 0 says that the row is missing. */
    private static final class Rows {
        static final int ROWS = 8, ITEMS = 40, LANES = 3, MISSING = -1;

        final int[][] items = new int[ROWS][ITEMS];
        final int[] lanes = new int[ROWS];
        final int[] lengths = new int[ROWS];

        Rows() {
            for (int row = 0; row < ROWS; row++) {
                lengths[row] = MISSING;
            }
        }

        static boolean isRow(int row) {
            return row >= 0 && row < ROWS;
        }

        static boolean isLane(int lane) {
            return lane >= 0 && lane < LANES;
        }

        boolean isMissing(int row) {
            return !isRow(row) || lengths[row] < 0;
        }

        boolean hasPlaces(int row, int i, int n) {
            return isRow(row) && i >= 0 && n >= 0 && i <= lengths[row] && n <= lengths[row] - i;
        }

        boolean areOfOneLane(int a, int b) {
            return isRow(a) && isRow(b) && lanes[a] == lanes[b];
        }

        int present() {
            int many = 0;
            for (int row = 0; row < ROWS; row++) {
                if (!isMissing(row)) {
                    many++;
                }
            }
            return many;
        }

        void make(int row, int lane, int n) {
            if (!isRow(row) || n < 0 || n > ITEMS) {
                return;
            }
            lanes[row] = lane;
            lengths[row] = n;
            for (int i = 0; i < n; i++) {
                items[row][i] = 0;
            }
        }

        int remove(int row) {
            if (isMissing(row)) {
                return 0;
            }
            int had = lengths[row];
            lengths[row] = MISSING;
            return had;
        }

        int at(int row, int i) {
            return hasPlaces(row, i, 1) ? items[row][i] : 0;
        }

        int put(int row, int i, int v) {
            if (!hasPlaces(row, i, 1)) {
                return 0;
            }
            items[row][i] = lowestBits(lanes[row], v);
            return items[row][i];
        }

        static int lowestBits(int lane, int v) {
            if (lane == 0) {
                return (byte) v;
            }
            return lane == 1 ? (short) v : v;
        }

        void move(int a, int i, int b, int j, int n) {
            if (hasPlaces(a, i, n) && hasPlaces(b, j, n)) {
                System.arraycopy(items[a], i, items[b], j, n);
            }
        }
    }

    /**
     * The sorts of all cells in one number: the lower bit of cell c's sort is bit c, the upper one is bit 15 + c,
     * so that two of these are compared, and kept, at once.
     */
    private static final class Planes {
        static int sortAt(int planes, int cell) {
            return (planes >> cell & 1) | (planes >> (CELLS + cell) & 1) << 1;
        }

        static int withSort(int planes, int cell, int sort) {
            int without = planes & ~(1 << cell | 1 << (CELLS + cell));
            return without | (sort & 1) << cell | (sort >> 1 & 1) << (CELLS + cell);
        }

        static int further(int planes, int cell, int by) {
            return withSort(planes, cell, (sortAt(planes, cell) + by) % SORTS);
        }

        static int wrong(int land, int sheet) {
            int apart = land ^ sheet;
            return (apart | (apart >> CELLS)) & ALL_CELLS;
        }

        static int taken(int land, int sheet, int cells) {
            int both = cells | cells << CELLS;
            return (land & ~both) | (sheet & both);
        }
    }

    /** What a text tells, and what follows from it as long as the text stands. */
    private static final class County {
        boolean stands;
        int shift;
        int by;
        int land;
        int sheet;
        int year;
        int men;
        int seams;
        int itching;
        final int[] cellsOf = new int[DISTRICTS];
        final int[] kinds = new int[SURVEYORS];
        final int[] districts = new int[SURVEYORS];
        final int[] scales = new int[SURVEYORS];
        final int[] felt = new int[SURVEYORS];
        final int[] atSeam = new int[SURVEYORS];
        final int[] within = new int[SURVEYORS];

        void clear() {
            stands = false;
            shift = 0;
            by = 0;
            land = 0;
            sheet = 0;
            year = 0;
            men = 0;
            for (int district = 0; district < DISTRICTS; district++) {
                cellsOf[district] = 0;
            }
        }

        void become(County other) {
            stands = other.stands;
            shift = other.shift;
            by = other.by;
            land = other.land;
            sheet = other.sheet;
            year = other.year;
            men = other.men;
            seams = other.seams;
            itching = other.itching;
            System.arraycopy(other.cellsOf, 0, cellsOf, 0, DISTRICTS);
            System.arraycopy(other.kinds, 0, kinds, 0, SURVEYORS);
            System.arraycopy(other.districts, 0, districts, 0, SURVEYORS);
            System.arraycopy(other.scales, 0, scales, 0, SURVEYORS);
            System.arraycopy(other.felt, 0, felt, 0, SURVEYORS);
            System.arraycopy(other.atSeam, 0, atSeam, 0, SURVEYORS);
            System.arraycopy(other.within, 0, within, 0, SURVEYORS);
        }

        /** Once the text has been read: what it tells of seams, of who feels them, and how much. */
        void stand() {
            seams = 0;
            for (int district = 0; district < DISTRICTS; district++) {
                int own = cellsOf[district];
                seams |= own & beside(ALL_CELLS & ~own);
            }
            itching = 0;
            for (int one = 0; one < men; one++) {
                placeSurveyor(one);
            }
            stands = true;
        }

        private void placeSurveyor(int one) {
            if (!hasSurveyor(one)) {
                return;
            }
            int own = ownCells(one);
            felt[one] = own | (beside(own) & seams);
            atSeam[one] = itchAtSeam(kinds[one], scales[one]);
            within[one] = itchWithin(kinds[one], scales[one]);
            itching |= atSeam[one] > 0 ? felt[one] & seams : 0;
            itching |= within[one] > 0 ? felt[one] & ~seams : 0;
        }

        private static int beside(int cells) {
            int sideways = (cells & ~RIGHT_EDGE) << 1 | (cells & ~LEFT_EDGE) >> 1;
            return (sideways | cells << WIDTH | cells >> WIDTH) & ALL_CELLS;
        }

        private static int itchAtSeam(int kind, int scale) {
            switch (kind) {
                case PLAIN: return scale;
                case LAZY: return scale / 2;
                case TENDER: return 2 * scale;
                default: return 1;
            }
        }

        private static int itchWithin(int kind, int scale) {
            switch (kind) {
                case PLAIN: return scale;
                case LAZY: return scale / 2;
                case TENDER: return scale;
                case CLERK: return 1;
                default: return 0;
            }
        }

        int itch(int one, int wrong) {
            if (!hasSurveyor(one)) {
                return 0;
            }
            int feels = wrong & felt[one];
            return Integer.bitCount(feels & seams) * atSeam[one] + Integer.bitCount(feels & ~seams) * within[one];
        }

        int itchOfAll(int wrong) {
            int sum = 0;
            for (int one = 0; one < men; one++) {
                sum += itch(one, wrong);
            }
            return sum;
        }

        boolean itchesAsTold(int wrong, int[] itches) {
            for (int one = 0; one < men && one < itches.length; one++) {
                if (itch(one, wrong) != itches[one]) {
                    return false;
                }
            }
            return true;
        }

        boolean hasSurveyor(int one) {
            return one >= 0 && one < men && one < SURVEYORS;
        }

        int ownCells(int one) {
            if (!hasSurveyor(one)) {
                return 0;
            }
            int district = districts[one];
            return district >= 0 && district < DISTRICTS ? cellsOf[district] : 0;
        }

        int districtOf(int cell) {
            for (int district = 0; district < DISTRICTS; district++) {
                if ((cellsOf[district] >> cell & 1) == 1) {
                    return district;
                }
            }
            return NONE;
        }

        int whoFeels(int cell) {
            int who = 0;
            for (int one = 0; one < men && one < SURVEYORS; one++) {
                who |= (felt[one] >> cell & 1) << one;
            }
            return who;
        }

        int whoRests(int wrong) {
            int who = 0;
            for (int one = 0; one < men; one++) {
                who |= itch(one, wrong) == 0 ? 1 << one : 0;
            }
            return who;
        }

        int wrongCells() {
            return Planes.wrong(land, sheet);
        }

        boolean allRestOn(int someLand) {
            return (Planes.wrong(someLand, sheet) & itching) == 0;
        }

        /** A stroke's number is 4 times the cell, and the sort. */
        int sheetAfterStroke(int someSheet, int number) {
            int cell = number / SORTS;
            int after = Planes.withSort(someSheet, cell, number % SORTS);
            return shift == 0 ? after : Planes.further(after, (cell + shift) % CELLS, by);
        }

        int landAfterYear(int someLand) {
            int after = someLand;
            for (int one = 0; one < men && one < SURVEYORS; one++) {
                if (kinds[one] == OBLIGED) {
                    int wrong = Planes.wrong(after, sheet) & ownCells(one);
                    after = Planes.taken(after, sheet, Integer.lowestOneBit(wrong));
                }
            }
            return after;
        }

        int fewestMen() {
            int best = NONE;
            for (int some = 0; some < 1 << men; some++) {
                boolean fewer = best == NONE || Integer.bitCount(some) < Integer.bitCount(best);
                if (fewer && (seams & ~feltBy(some)) == 0) {
                    best = some;
                }
            }
            return best;
        }

        int feltBy(int some) {
            int cells = 0;
            for (int one = 0; one < men && one < SURVEYORS; one++) {
                cells |= (some >> one & 1) == 1 ? felt[one] : 0;
            }
            return cells;
        }

        int signer(int k) {
            int wrong = wrongCells();
            for (int one = 0; one < men; one++) {
                if (howManySignBefore(one, wrong) == k) {
                    return one;
                }
            }
            return NONE;
        }

        int howManySignBefore(int one, int wrong) {
            int many = 0;
            int own = itch(one, wrong);
            for (int other = 0; other < men; other++) {
                int itch = itch(other, wrong);
                if (itch < own || itch == own && other < one) {
                    many++;
                }
            }
            return many;
        }
    }

    /** The tape, and how a county is read from it; once there is a fault, nothing more is taken. */
    private static final class Reader {
        static final int BYTES = 120, FIGURES = 2;
        static final int MISPLACED = 1, NOT_AS_TOLD = 2, NO_ROOM = 3;

        final int[] tape = new int[BYTES];
        int length;
        int at;
        int faultFound;

        boolean isFull() {
            return length >= BYTES;
        }

        int add(int letter) {
            if (length < BYTES) {
                tape[length] = letter;
                length++;
            }
            return length;
        }

        void read(County county) {
            at = 0;
            faultFound = 0;
            county.clear();
            readLaw(county);
            county.land = readSorts('m');
            county.sheet = readSorts('n');
            readDistricts(county);
            for (int one = 0; one <= SURVEYORS && faultFound == 0 && at < length; one++) {
                readSurveyor(county);
            }
            if (faultFound == 0) {
                county.stand();
            }
            length = 0;
        }

        void readLaw(County county) {
            take('l');
            county.shift = takeNumber(0, CELLS - 1);
            take(',');
            county.by = takeNumber(0, SORTS - 1);
            take(';');
        }

        int readSorts(int head) {
            int planes = 0;
            take(head);
            for (int cell = 0; cell < CELLS; cell++) {
                planes = Planes.withSort(planes, cell, takeLetter('a', 'd'));
            }
            take(';');
            return planes;
        }

        void readDistricts(County county) {
            take('c');
            for (int cell = 0; cell < CELLS; cell++) {
                int district = takeLetter('e', 'g');
                if (district >= 0 && district < DISTRICTS) {
                    county.cellsOf[district] |= 1 << cell;
                }
            }
            take(';');
        }

        void readSurveyor(County county) {
            int kind = kindOf(peek());
            int one = county.men;
            if (kind == 0) {
                fail(MISPLACED);
                return;
            }
            if (one < 0 || one >= SURVEYORS) {
                fail(NO_ROOM);
                return;
            }
            take(peek());
            county.kinds[one] = kind;
            county.districts[one] = takeNumber(0, DISTRICTS - 1);
            take(',');
            county.scales[one] = takeNumber(1, 5);
            take(';');
            county.men++;
        }

        static int kindOf(int letter) {
            switch (letter) {
                case 'p': return PLAIN;
                case 'z': return LAZY;
                case 'y': return TENDER;
                case 'k': return CLERK;
                case 'o': return OBLIGED;
                default: return 0;
            }
        }

        void fail(int fault) {
            if (faultFound == 0) {
                faultFound = fault;
            }
        }

        int peek() {
            return byteAt(at);
        }

        int byteAt(int place) {
            return place >= 0 && place < length && place < BYTES ? tape[place] : NONE;
        }

        void take(int wanted) {
            takeLetter(wanted, wanted);
        }

        /** How far behind the first one the letter is; 0 if there is a fault. */
        int takeLetter(int first, int last) {
            int letter = peek();
            if (faultFound != 0) {
                return 0;
            }
            if (letter < first || letter > last) {
                fail(MISPLACED);
                return 0;
            }
            at++;
            return letter - first;
        }

        int takeNumber(int least, int most) {
            if (faultFound != 0) {
                return 0;
            }
            int figures = 0;
            int number = 0;
            for (int place = at; place < length && isFigure(byteAt(place)); place++) {
                number = figures < FIGURES ? 10 * number + byteAt(place) - '0' : number;
                figures++;
            }
            if (figures == 0 || figures > FIGURES) {
                fail(MISPLACED);
                return 0;
            }
            if (number < least || number > most) {
                fail(NOT_AS_TOLD);
                return 0;
            }
            at += figures;
            return number;
        }

        static boolean isFigure(int letter) {
            return letter >= '0' && letter <= '9';
        }
    }

    /** What a county was ahead of each of its latest acts; a ring, so that the oldest is forgotten. */
    private static final class Acts {
        static final int MOST = 24;

        final int[] lands = new int[MOST];
        final int[] sheets = new int[MOST];
        final int[] years = new int[MOST];
        int next;
        int kept;

        void forgetAll() {
            next = 0;
            kept = 0;
        }

        void keep(County county) {
            if (next < 0 || next >= MOST) {
                return;
            }
            lands[next] = county.land;
            sheets[next] = county.sheet;
            years[next] = county.year;
            next = (next + 1) % MOST;
            kept = Math.min(kept + 1, MOST);
        }

        void takeBack(County county) {
            int latest = (next + MOST - 1) % MOST;
            if (kept == 0 || latest < 0) {
                return;
            }
            county.land = lands[latest];
            county.sheet = sheets[latest];
            county.year = years[latest];
            next = latest;
            kept--;
        }
    }

    /** The fewest strokes by which all rest, or by which nothing is wrong: by which no cell that counts is wrong. */
    private static final class Plan {
        static final int NUMBERS = SORTS * CELLS, TOUCHED = 2;

        int fewest;
        int first;
        int second;

        void seek(County county, boolean truly) {
            int counting = truly ? ALL_CELLS : county.itching;
            second = NONE;
            first = NONE;
            if (isReached(county, county.sheet, counting)) {
                fewest = 0;
                return;
            }
            first = lastStroke(county, county.sheet, counting);
            fewest = 1;
            if (first == NONE) {
                seekTwo(county, counting);
            }
        }

        private void seekTwo(County county, int counting) {
            fewest = NONE;
            for (int number = 0; number < NUMBERS && fewest == NONE; number++) {
                if (changes(county.sheet, number)) {
                    second = lastStroke(county, county.sheetAfterStroke(county.sheet, number), counting);
                    first = second == NONE ? NONE : number;
                    fewest = second == NONE ? NONE : 2;
                }
            }
        }

        private static int lastStroke(County county, int sheet, int counting) {
            // a stroke cannot mend more cells than it touches: most sheets need no search
            if (Integer.bitCount(Planes.wrong(county.land, sheet) & counting) > TOUCHED) {
                return NONE;
            }
            for (int number = 0; number < NUMBERS; number++) {
                if (changes(sheet, number) && isReached(county, county.sheetAfterStroke(sheet, number), counting)) {
                    return number;
                }
            }
            return NONE;
        }

        private static boolean changes(int sheet, int number) {
            return Planes.sortAt(sheet, number / SORTS) != number % SORTS;
        }

        private static boolean isReached(County county, int sheet, int counting) {
            return (Planes.wrong(county.land, sheet) & counting) == 0;
        }
    }

    /** All sets of at most two wrong cells that would make itches as they are told. */
    private static final class Fits {
        final int[] withCell = new int[CELLS];
        int many;
        int best;

        void gather(County county, int[] itches) {
            many = 0;
            best = NONE;
            for (int cell = 0; cell < CELLS; cell++) {
                withCell[cell] = 0;
            }
            consider(county, itches, 0);
            for (int a = 0; a < CELLS; a++) {
                for (int b = a; b < CELLS; b++) {
                    consider(county, itches, 1 << a | 1 << b);
                }
            }
        }

        private void consider(County county, int[] itches, int cells) {
            if (!county.itchesAsTold(cells, itches)) {
                return;
            }
            many++;
            for (int cell = 0; cell < CELLS; cell++) {
                withCell[cell] += cells >> cell & 1;
            }
            if (best == NONE || isBefore(cells, best)) {
                best = cells;
            }
        }

        private static boolean isBefore(int cells, int others) {
            int fewer = Integer.bitCount(cells) - Integer.bitCount(others);
            return fewer < 0 || fewer == 0 && cells < others;
        }

        int nearestToHalf() {
            if (many == 0) {
                return NONE;
            }
            int nearest = 0;
            for (int cell = 1; cell < CELLS; cell++) {
                if (fromHalf(cell) < fromHalf(nearest)) {
                    nearest = cell;
                }
            }
            return nearest;
        }

        private int fromHalf(int cell) {
            return cell >= 0 && cell < CELLS ? Math.abs(2 * withCell[cell] - many) : many;
        }
    }

    /** Odds in lowest terms. */
    private static final class Fraction {
        private static final int TURNS = 100;

        /** What is above (0) or below (1), when above by below is in lowest terms; below is not below 0. */
        static int part(int above, int below, int what) {
            int common = common(Math.abs(above), below);
            if (common == 0) {
                return NONE;
            }
            return (what == 0 ? above : below) / common;
        }

        private static int common(int a, int b) {
            int more = a;
            int less = b;
            for (int turn = 0; turn < TURNS && less != 0; turn++) {
                int rest = more % less;
                more = less;
                less = rest;
            }
            return more;
        }

        static int power(int base, int n) {
            int product = 1;
            for (int k = 0; k < n; k++) {
                product *= base;
            }
            return product;
        }

        /** In how many of 10 to the n ways a brook moves by so many sorts, or by whole rounds more. */
        static int waysToMove(int sorts, int p, int n) {
            int ways = 0;
            int choices = 1;
            for (int moves = 0; moves <= n; moves++) {
                if (moves % SORTS == sorts) {
                    ways += choices * power(p, moves) * power(ODDS - p, n - moves);
                }
                choices = choices * (n - moves) / (moves + 1);
            }
            return ways;
        }

        /** A part of what the first of two can hold a quarrel to: by one way, if that is enough, else by odds. */
        static int worth(int a, int b, int c, int d, int what) {
            int least = Math.max(Math.min(a, b), Math.min(c, d));
            int most = Math.min(Math.max(a, c), Math.max(b, d));
            int below = a + d - b - c;
            if (least == most || below == 0) {
                return part(least, 1, what);
            }
            int above = a * d - b * c;
            return below < 0 ? part(-above, -below, what) : part(above, below, what);
        }
    }

    /** The kinds of surveyors, and the bodies by which they answer. */
    private static final class Asks {
        private static final int KEPT = 16, DEEPEST = 12;
        private static final int[] NEXT_KIND = {0, 0, PLAIN, PLAIN, 0, CLERK};
        private static final int[] SIZE_BODY = {10, 11, 12, 11, 13, 14};
        private static final int[] MARK_BODY = {20, 21, 24, 22, 23, 23};

        final int[] begun = new int[KEPT];
        int many;

        static boolean isOne(int kind, int wanted) {
            int taken = kind;
            for (int step = 0; step < KINDS && taken > 0 && taken < KINDS; step++) {
                if (taken == wanted) {
                    return true;
                }
                taken = NEXT_KIND[taken];
            }
            return taken == wanted;
        }

        int answer(County county, int one, int what) {
            many = 0;
            return give(county, one, what == 0 ? sizeBody(county, one) : markBody(county, one), 0);
        }

        int left(int i) {
            return i >= 0 && i < many && i < KEPT ? begun[i] : NONE;
        }

        private int give(County county, int one, int body, int depth) {
            if (depth > DEEPEST || !county.hasSurveyor(one)) {
                return 0;
            }
            begin(body);
            int next = depth + 1;
            switch (body) {
                case 10: return county.itch(one, county.wrongCells());
                case 11: return give(county, one, 10, next) + give(county, one, markBody(county, one), next);
                case 12: return -give(county, one, 11, next);
                case 13: return give(county, one, 10, next) - 100;
                case 14: return 2 * give(county, one, 13, next);
                case 20: return one;
                case 21: return give(county, one, 20, next) + county.scales[one];
                case 22: return give(county, one, 21, next) - 1000;
                case 23: return give(county, one, 20, next) - give(county, one, sizeBody(county, one), next);
                case 24: return 2 * give(county, one, 21, next);
                default: return 0;
            }
        }

        private void begin(int body) {
            if (many < KEPT) {
                begun[many] = body;
                many++;
            }
        }

        private static int sizeBody(County county, int one) {
            int kind = county.hasSurveyor(one) ? county.kinds[one] : 0;
            return kind >= 0 && kind < KINDS ? SIZE_BODY[kind] : 10;
        }

        private static int markBody(County county, int one) {
            int kind = county.hasSurveyor(one) ? county.kinds[one] : 0;
            return kind >= 0 && kind < KINDS ? MARK_BODY[kind] : 20;
        }
    }
}
