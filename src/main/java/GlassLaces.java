import java.util.Arrays;

/**
 * Courts of laced ladies, their balls, forecasts, sights, ledgers and shifts, told as texts over a
 * tape. What every answer means stands in the project's document; README.md shows the use.
 */
public final class GlassLaces {
    public static final int NONE = -1;

    private static final int NO_SUCH = -2;
    private static final int NO_STATE = -100;
    private static final int NO_NET = -10000;

    private static final int TAPE_MAX = 600;
    private static final int FEED_BYTES = 20;
    private static final int SORTS = 6;
    private static final int COURTS = 0;
    private static final int BALLS = 1;
    private static final int FORECASTS = 2;
    private static final int SIGHTS = 3;
    private static final int LEDGERS = 4;
    private static final int SHIFTS = 5;
    private static final int OF_A_SORT = 2;
    private static final int IMAGES = 3;

    private static final int ROOMS_MAX = 4;
    private static final int LADIES_MAX = 8;
    private static final int STEPS_MAX = 6;
    private static final int DEEDS_MAX = 40;
    private static final int MARKS_MAX = 16;
    private static final int SEEN_MAX = 20;
    private static final int SHOTS_MAX = 20;
    private static final int PAWNS_MAX = 30;
    private static final int MAIDS_MAX = 10;

    private static final int SIZE_TOP = 9;
    private static final int HEIGHT_TOP = 9;
    private static final int CLIMB_TOP = 40;
    private static final int LACE_TOP = 30;
    private static final int FAINT_TOP = 60;
    private static final int BURST_TOP = 90;
    private static final int MARK_TOP = 40;
    private static final int PRESSURE_LOW = -9;
    private static final int PRESSURE_TOP = 60;
    private static final int TELLING_MINUTE_TOP = 16;
    private static final int SHIFT_MINUTE_TOP = 30;
    private static final int WIND_MINUTES = 9;
    private static final int DRAWN_MINUTES = 60;
    private static final int PEN_TOP = 99;
    private static final int PAWN_TOP = 99;

    private static final int ROOM_SIZE = 0;
    private static final int ROOM_HEIGHT = 1;
    private static final int LADY_ROOM = 0;
    private static final int LADY_LACE = 1;
    private static final int LADY_FAINT = 2;
    private static final int LADY_BURST = 3;
    private static final int LADY_GOSSIP = 4;
    private static final int STEP_MARK = 0;
    private static final int STEP_LACE = 1;

    private static final int STANDS = 0;
    private static final int FAINTS = 1;
    private static final int BURSTS = 2;

    private static final int DEED_GLASS = 0;
    private static final int DEED_OPEN = 1;
    private static final int DEED_SHUT = 2;
    private static final int DEED_SIGH = 3;
    private static final int DEED_TIE = 4;
    private static final int DEED_LOOSEN = 5;
    private static final int DEED_GO = 6;
    private static final int DEED_TOAST = 7;
    private static final int DEED_MINUTE = 8;

    private static final int IS_UP = 0;
    private static final int IS_DOWN = 1;
    private static final int IS_BURST = 2;

    private final Told told;
    private final Told[] images;
    private final boolean[] imaged;
    private final Reader reader;
    private final Hall hall;
    private final Lacing lacing;
    private final Odds odds;
    private final Watch watch;
    private final Debts debts;
    private final Rota rota;

    public GlassLaces() {
        told = new Told();
        images = new Told[IMAGES];
        for (int k = 0; k < IMAGES; k++) {
            images[k] = new Told();
        }
        imaged = new boolean[IMAGES];
        reader = new Reader();
        hall = new Hall();
        lacing = new Lacing();
        odds = new Odds();
        watch = new Watch();
        debts = new Debts();
        rota = new Rota();
    }

    public int feed(int a, int b, int c, int d, int e) {
        if (told.length + FEED_BYTES > TAPE_MAX) {
            return NONE;
        }
        told.addNumber(a);
        told.addNumber(b);
        told.addNumber(c);
        told.addNumber(d);
        told.addNumber(e);
        return told.length;
    }

    public int end(int n) {
        if (n < 0 || n > told.length) {
            return NONE;
        }
        told.length = n;
        return n;
    }

    public int text(int sort, int at) {
        int number = told.numberFor(sort, at);
        if (number == NO_SUCH) {
            told.closeTape(0, NONE);
            return NO_SUCH;
        }
        reader.readAll(sort, told);
        told.closeTape(reader.fault, reader.place);
        if (reader.fault != 0) {
            return NONE;
        }
        told.keep(sort, number, reader);
        return number;
    }

    public int fault(int what) {
        if (what == 0) {
            return told.fault;
        }
        return what == 1 ? told.place : NONE;
    }

    public int court(int court, int what) {
        Court c = told.courtAt(court);
        return c == null ? NONE : c.tell(what);
    }

    public int lady(int court, int lady, int what) {
        Court c = told.courtAt(court);
        return c == null ? NONE : c.ladies.cell(lady, what);
    }

    public int under(int court, int lady, int lace, int pressure) {
        Court c = told.courtAt(court);
        if (c == null || !c.ladies.has(lady) || !isLace(lace)
                || pressure < PRESSURE_LOW || pressure > PRESSURE_TOP) {
            return NONE;
        }
        return c.fate(lady, lace, pressure);
    }

    public int deed(int ball, int k, int what) {
        return rowCell(told.rowsAt(BALLS, ball), k, what);
    }

    public int stop(int court, int ball) {
        Court c = told.courtAt(court);
        Rows b = told.rowsAt(BALLS, ball);
        if (c == null || b == null) {
            return NONE;
        }
        hall.play(c, b, b.rows);
        return hall.done;
    }

    public int state(int court, int ball, int n, int what) {
        boolean isState = hall.play(told.courtAt(court), told.rowsAt(BALLS, ball), n);
        return isState ? hall.tell(what) : NO_STATE;
    }

    public int of(int court, int ball, int n, int lady, int what) {
        boolean isState = hall.play(told.courtAt(court), told.rowsAt(BALLS, ball), n);
        return isState ? hall.tellOf(lady, what) : NO_SUCH;
    }

    public int mark(int forecast, int k) {
        return rowCell(told.rowsAt(FORECASTS, forecast), k, 0);
    }

    public int falls(int court, int forecast, int lady) {
        Court c = told.courtAt(court);
        Rows f = told.rowsAt(FORECASTS, forecast);
        if (c == null || f == null || !c.ladies.has(lady)) {
            return NONE;
        }
        int lace = c.ladies.cell(lady, LADY_LACE);
        for (int minute = 0; minute < f.rows; minute++) {
            if (!c.standsAt(lady, lace, f.cell(minute, 0))) {
                return minute;
            }
        }
        return NONE;
    }

    public int laced(int court, int forecast, int lady, boolean proper, int what) {
        Court c = told.courtAt(court);
        Rows f = told.rowsAt(FORECASTS, forecast);
        if (c == null || f == null || !c.ladies.has(lady)) {
            return NONE;
        }
        int knots = lacing.fewest(c, f, lady, proper);
        if (what == 0 || knots == NONE) {
            return knots;
        }
        return what >= 10 && what - 10 < f.rows ? lacing.laceAt(what - 10) : NONE;
    }

    public int least(int court, int forecast, int n, boolean proper, boolean who) {
        Court c = told.courtAt(court);
        Rows f = told.rowsAt(FORECASTS, forecast);
        if (c == null || f == null || n < 0 || n > c.ladies.rows) {
            return NONE;
        }
        int best = lacing.leastOf(c, f, n, proper);
        return who || best == NONE ? best : lacing.knotsOf(best);
    }

    public int dance(int forecast, int mark) {
        Rows f = told.rowsAt(FORECASTS, forecast);
        if (f == null) {
            return NONE;
        }
        for (int minute = 0; minute < f.rows; minute++) {
            if (f.cell(minute, 0) == mark) {
                return minute;
            }
        }
        return NONE;
    }

    public long reach(int court, int mark, int n, boolean ends, boolean under) {
        Court c = told.courtAt(court);
        if (c == null || !isMark(mark) || n < 0 || n > WIND_MINUTES) {
            return NONE;
        }
        if (ends) {
            odds.everAt(c, mark, n);
        } else {
            odds.thenAt(c, mark, n);
        }
        return under ? odds.bottom : odds.top;
    }

    public long drop(int court, int lady, int n, boolean under) {
        Court c = told.courtAt(court);
        if (c == null || !c.ladies.has(lady) || n < 0 || n > WIND_MINUTES) {
            return NONE;
        }
        odds.everFallen(c, lady, n);
        return under ? odds.bottom : odds.top;
    }

    public int worth(int court, int lady, int pen, int what) {
        Court c = told.courtAt(court);
        if (c == null || !c.ladies.has(lady) || pen < 0 || pen > PEN_TOP) {
            return NONE;
        }
        int lace = odds.worthOf(c, lady, pen);
        switch (what) {
            case 0:
                return (int) odds.top;
            case 1:
                return (int) odds.bottom;
            case 2:
                return lace;
            default:
                return NONE;
        }
    }

    public int sight(int sight, int what) {
        Sight s = told.sightAt(sight);
        return s == null ? NONE : s.tell(what);
    }

    public long ways(int court, int sight) {
        Court c = told.courtAt(court);
        Sight s = told.sightAt(sight);
        return c == null || s == null ? NONE : watch.waysOf(c, s);
    }

    public int may(int court, int sight, int minute, int what) {
        Court c = told.courtAt(court);
        Sight s = told.sightAt(sight);
        if (c == null || s == null || minute < 0 || minute > s.lastMinute()
                || watch.waysOf(c, s) <= 0) {
            return NONE;
        }
        int low = watch.leastMark(minute);
        int high = watch.mostMark(minute);
        switch (what) {
            case 0:
                return low;
            case 1:
                return high;
            case 2:
                return low == high ? low : NONE;
            default:
                return NONE;
        }
    }

    public int spy(int court, int sight, int lady) {
        Court c = told.courtAt(court);
        Sight s = told.sightAt(sight);
        if (c == null || s == null || !c.ladies.has(lady)) {
            return NONE;
        }
        int laces = 0;
        for (int lace = 0; lace <= LACE_TOP; lace++) {
            if (s.shotsAgree(c, lady, lace)) {
                laces |= 1 << lace;
            }
        }
        return laces;
    }

    public int pawn(int ledger, int k, int what) {
        return rowCell(told.rowsAt(LEDGERS, ledger), k, what);
    }

    public int net(int ledger, int lady) {
        Rows pawns = told.rowsAt(LEDGERS, ledger);
        if (pawns == null || lady < 0 || lady >= LADIES_MAX) {
            return NO_NET;
        }
        return Debts.netOf(pawns, lady);
    }

    public int pays(int ledger, boolean chain) {
        Rows pawns = told.rowsAt(LEDGERS, ledger);
        if (pawns == null) {
            return NONE;
        }
        return chain ? Debts.chainOf(pawns) : debts.fewestPayments(pawns);
    }

    public int maid(int shifts, int k, int what) {
        return rowCell(told.rowsAt(SHIFTS, shifts), k, what);
    }

    public int cover(int shifts, int from, int to, int k, boolean gap) {
        Rows maids = told.rowsAt(SHIFTS, shifts);
        if (maids == null || from < 0 || to > SHIFT_MINUTE_TOP || from > to || !isMaidNumber(k)) {
            return NONE;
        }
        rota.begin(maids);
        return gap ? rota.firstGap(from, to, k) : rota.fewestMaids(maids.rows, from, to, k);
    }

    public int longest(int shifts, int k) {
        Rows maids = told.rowsAt(SHIFTS, shifts);
        if (maids == null || !isMaidNumber(k)) {
            return NONE;
        }
        rota.begin(maids);
        return rota.longestRow(k);
    }

    public int drawn(int court, int seed, int n, int what) {
        Court c = told.courtAt(court);
        if (c == null || n < 0 || n > DRAWN_MINUTES) {
            return NONE;
        }
        return hall.tellWeather(c, seed, n, what);
    }

    public int climb(int court, int lady, int mark, int what) {
        Court c = told.courtAt(court);
        if (c == null || !c.ladies.has(lady) || !isMark(mark)) {
            return NO_SUCH;
        }
        switch (what) {
            case 0:
                return c.highestStand(lady, mark);
            case 1:
                return c.roomsToStand(lady, mark);
            case 2:
                return c.freeLaces(lady, mark);
            case 3:
                return c.leastFree(lady, mark);
            case 4:
                return c.mostFree(lady, mark);
            default:
                return NO_SUCH;
        }
    }

    public int calm(int court, int lady, int lace) {
        Court c = told.courtAt(court);
        if (c == null || !c.ladies.has(lady)) {
            return NONE;
        }
        if (lace == NONE) {
            return c.calmestLace(lady);
        }
        return isLace(lace) ? c.calmRow(lady, lace) : NONE;
    }

    public int count(int sort) {
        return sort < 0 || sort >= SORTS ? NO_SUCH : told.counts[sort];
    }

    public boolean image(int k) {
        if (k < 0 || k >= IMAGES) {
            return false;
        }
        images[k].copyFrom(told);
        imaged[k] = true;
        return true;
    }

    public boolean again(int k) {
        if (k < 0 || k >= IMAGES || !imaged[k]) {
            return false;
        }
        told.copyFrom(images[k]);
        return true;
    }

    private static int rowCell(Rows rows, int k, int what) {
        if (rows == null) {
            return NO_SUCH;
        }
        if (k == NONE) {
            return what == 0 ? rows.rows : NO_SUCH;
        }
        return rows.has(k) && what >= 0 && what < rows.width ? rows.cell(k, what) : NO_SUCH;
    }

    private static boolean isLace(int lace) {
        return lace >= 0 && lace <= LACE_TOP;
    }

    private static boolean isMark(int mark) {
        return mark >= 0 && mark <= MARK_TOP;
    }

    private static boolean isMaidNumber(int k) {
        return k >= 1 && k <= MAIDS_MAX;
    }

    /** A list of rows of numbers, with a most; what lies outside it reads as NONE. */
    private static final class Rows {
        final int max;
        final int width;
        final int[] cells;
        int rows;

        Rows(int max, int width) {
            this.max = max;
            this.width = width;
            cells = new int[max * width];
        }

        void clear() {
            rows = 0;
        }

        boolean has(int row) {
            return row >= 0 && row < rows;
        }

        int cell(int row, int column) {
            if (row < 0 || row >= rows || column < 0 || column >= width) {
                return NONE;
            }
            return cells[row * width + column];
        }

        /** A new row of NONE; a full list stays as it is, since its text has a FAULT then. */
        void addRow() {
            if (rows < max) {
                rows++;
                for (int column = 0; column < width; column++) {
                    cells[(rows - 1) * width + column] = NONE;
                }
            }
        }

        void setLast(int column, int value) {
            if (rows > 0 && column >= 0 && column < width) {
                cells[(rows - 1) * width + column] = value;
            }
        }

        boolean hasInColumn(int column, int value) {
            for (int row = 0; row < rows; row++) {
                if (cell(row, column) == value) {
                    return true;
                }
            }
            return false;
        }

        void copyFrom(Rows other) {
            if (other.cells.length == cells.length) {
                System.arraycopy(other.cells, 0, cells, 0, cells.length);
                rows = other.rows;
            }
        }
    }

    private static final class Court {
        final Rows rooms = new Rows(ROOMS_MAX, 2);
        final Rows ladies = new Rows(LADIES_MAX, 5);
        final Rows steps = new Rows(STEPS_MAX, 2);
        final int[] wind = new int[3];
        int slack;
        int rest;
        int glass;

        void clear() {
            rooms.clear();
            ladies.clear();
            steps.clear();
            Arrays.fill(wind, 1);
            slack = 2;
            rest = 3;
            glass = 30;
        }

        void copyFrom(Court other) {
            rooms.copyFrom(other.rooms);
            ladies.copyFrom(other.ladies);
            steps.copyFrom(other.steps);
            System.arraycopy(other.wind, 0, wind, 0, wind.length);
            slack = other.slack;
            rest = other.rest;
            glass = other.glass;
        }

        int tell(int what) {
            if (what >= 100) {
                return isMark(what - 100) ? properAt(what - 100) : NONE;
            }
            if (what >= 40) {
                return steps.cell(what - 40, STEP_LACE);
            }
            if (what >= 30) {
                return steps.cell(what - 30, STEP_MARK);
            }
            if (what >= 20) {
                return rooms.cell(what - 20, ROOM_HEIGHT);
            }
            if (what >= 10) {
                return rooms.cell(what - 10, ROOM_SIZE);
            }
            return tellWhole(what);
        }

        int tellWhole(int what) {
            switch (what) {
                case 0:
                    return rooms.rows;
                case 1:
                    return ladies.rows;
                case 2:
                    return steps.rows;
                case 3:
                    return slack;
                case 4:
                    return rest;
                case 5:
                    return glass;
                case 6:
                case 7:
                case 8:
                    return wind[what - 6];
                default:
                    return NONE;
            }
        }

        boolean roomsOfAllAreThere() {
            for (int lady = 0; lady < ladies.rows; lady++) {
                if (!rooms.has(ladies.cell(lady, LADY_ROOM))) {
                    return false;
                }
            }
            return true;
        }

        int allWeights() {
            return wind[0] + wind[1] + wind[2];
        }

        /** The mark behind a gust: 0 down, 1 same, 2 up; the ends of the scale hold it. */
        int markAfter(int mark, int gust) {
            return Math.max(0, Math.min(MARK_TOP, mark + gust - 1));
        }

        int properAt(int mark) {
            int nearest = NONE;
            int lace = 0;
            for (int step = 0; step < steps.rows; step++) {
                int from = steps.cell(step, STEP_MARK);
                if (from <= mark && from > nearest) {
                    nearest = from;
                    lace = steps.cell(step, STEP_LACE);
                }
            }
            return lace;
        }

        boolean isNear(int lace, int proper) {
            return Math.abs(lace - proper) <= slack;
        }

        int fate(int lady, int lace, int pressure) {
            if (lace + pressure > ladies.cell(lady, LADY_BURST)) {
                return BURSTS;
            }
            return lace + 30 - pressure > ladies.cell(lady, LADY_FAINT) ? FAINTS : STANDS;
        }

        boolean stands(int lady, int lace, int pressure) {
            return fate(lady, lace, pressure) == STANDS;
        }

        /** The PRESSURE in her own ROOM, open, at a mark of the GLASS. */
        int pressureOf(int lady, int mark) {
            return mark - rooms.cell(ladies.cell(lady, LADY_ROOM), ROOM_HEIGHT);
        }

        boolean standsAt(int lady, int lace, int mark) {
            return fate(lady, lace, pressureOf(lady, mark)) == STANDS;
        }

        int highestStand(int lady, int mark) {
            int lace = ladies.cell(lady, LADY_LACE);
            for (int height = CLIMB_TOP; height >= 0; height--) {
                if (stands(lady, lace, mark - height)) {
                    return height;
                }
            }
            return NONE;
        }

        int roomsToStand(int lady, int mark) {
            int lace = ladies.cell(lady, LADY_LACE);
            int bits = 0;
            for (int room = 0; room < rooms.rows; room++) {
                if (stands(lady, lace, mark - rooms.cell(room, ROOM_HEIGHT))) {
                    bits |= 1 << room;
                }
            }
            return bits;
        }

        int freeLaces(int lady, int mark) {
            int free = 0;
            for (int lace = 0; lace <= LACE_TOP; lace++) {
                if (standsAt(lady, lace, mark)) {
                    free++;
                }
            }
            return free;
        }

        int leastFree(int lady, int mark) {
            for (int lace = 0; lace <= LACE_TOP; lace++) {
                if (standsAt(lady, lace, mark)) {
                    return lace;
                }
            }
            return NONE;
        }

        int mostFree(int lady, int mark) {
            for (int lace = LACE_TOP; lace >= 0; lace--) {
                if (standsAt(lady, lace, mark)) {
                    return lace;
                }
            }
            return NONE;
        }

        int calmRow(int lady, int lace) {
            int best = 0;
            int row = 0;
            for (int mark = 0; mark <= MARK_TOP; mark++) {
                row = standsAt(lady, lace, mark) ? row + 1 : 0;
                best = Math.max(best, row);
            }
            return best;
        }

        int calmestLace(int lady) {
            int best = 0;
            int longestRow = calmRow(lady, 0);
            for (int lace = 1; lace <= LACE_TOP; lace++) {
                int row = calmRow(lady, lace);
                if (row > longestRow) {
                    longestRow = row;
                    best = lace;
                }
            }
            return best;
        }
    }

    /** SEEN ones: lady, minute, fell. SHOTS: lady, PRESSURE, fell. (fell: 1, stood: 0) */
    private static final class Sight {
        final Rows seen = new Rows(SEEN_MAX, 3);
        final Rows shots = new Rows(SHOTS_MAX, 3);

        void clear() {
            seen.clear();
            shots.clear();
        }

        void copyFrom(Sight other) {
            seen.copyFrom(other.seen);
            shots.copyFrom(other.shots);
        }

        int tell(int what) {
            if (what >= 400) {
                return shots.cell((what - 400) / 10, (what - 400) % 10);
            }
            if (what >= 100) {
                return seen.cell((what - 100) / 10, (what - 100) % 10);
            }
            if (what == 0) {
                return seen.rows;
            }
            return what == 1 ? shots.rows : NONE;
        }

        int lastMinute() {
            int last = 0;
            for (int k = 0; k < seen.rows; k++) {
                last = Math.max(last, seen.cell(k, 1));
            }
            return last;
        }

        boolean seenAreIn(Court court) {
            for (int k = 0; k < seen.rows; k++) {
                if (!court.ladies.has(seen.cell(k, 0))) {
                    return false;
                }
            }
            return true;
        }

        /** Whether all that was SEEN at a minute could be at this mark. */
        boolean seenAgree(Court court, int minute, int mark) {
            for (int k = 0; k < seen.rows; k++) {
                if (seen.cell(k, 1) == minute) {
                    int lady = seen.cell(k, 0);
                    int lace = court.ladies.cell(lady, LADY_LACE);
                    if (court.standsAt(lady, lace, mark) == (seen.cell(k, 2) == 1)) {
                        return false;
                    }
                }
            }
            return true;
        }

        boolean shotsAgree(Court court, int lady, int lace) {
            for (int k = 0; k < shots.rows; k++) {
                if (shots.cell(k, 0) == lady
                        && court.stands(lady, lace, shots.cell(k, 1)) == (shots.cell(k, 2) == 1)) {
                    return false;
                }
            }
            return true;
        }
    }

    /** All that is told: what an image holds. */
    private static final class Told {
        final byte[] tape = new byte[TAPE_MAX];
        final int[] counts = new int[SORTS];
        final Court[] courts = new Court[OF_A_SORT];
        final Sight[] sights = new Sight[OF_A_SORT];
        final Rows[] balls = new Rows[OF_A_SORT];
        final Rows[] forecasts = new Rows[OF_A_SORT];
        final Rows[] ledgers = new Rows[OF_A_SORT];
        final Rows[] shifts = new Rows[OF_A_SORT];
        int length;
        int fault;
        int place = NONE;

        Told() {
            for (int k = 0; k < OF_A_SORT; k++) {
                courts[k] = new Court();
                sights[k] = new Sight();
                balls[k] = new Rows(DEEDS_MAX, 3);
                forecasts[k] = new Rows(MARKS_MAX, 1);
                ledgers[k] = new Rows(PAWNS_MAX, 3);
                shifts[k] = new Rows(MAIDS_MAX, 2);
            }
        }

        void addNumber(int number) {
            for (int shift = 24; shift >= 0; shift -= 8) {
                if (length >= 0 && length < TAPE_MAX) {
                    tape[length] = (byte) (number >>> shift);
                    length++;
                }
            }
        }

        void closeTape(int newFault, int newPlace) {
            length = 0;
            fault = newFault;
            place = newPlace;
        }

        /** The number that a text gets, which is told as a further one (NONE) or in a place. */
        int numberFor(int sort, int at) {
            if (sort < 0 || sort >= SORTS) {
                return NO_SUCH;
            }
            if (at == NONE) {
                return counts[sort] < OF_A_SORT ? counts[sort] : NO_SUCH;
            }
            return at >= 0 && at < counts[sort] ? at : NO_SUCH;
        }

        boolean isThere(int sort, int k) {
            return sort >= 0 && sort < SORTS && k >= 0 && k < OF_A_SORT && k < counts[sort];
        }

        Court courtAt(int k) {
            return isThere(COURTS, k) ? courts[k] : null;
        }

        Sight sightAt(int k) {
            return isThere(SIGHTS, k) ? sights[k] : null;
        }

        Rows rowsAt(int sort, int k) {
            return isThere(sort, k) ? rowsIn(sort, k) : null;
        }

        Rows rowsIn(int sort, int k) {
            if (k < 0 || k >= OF_A_SORT) {
                return null;
            }
            switch (sort) {
                case BALLS:
                    return balls[k];
                case FORECASTS:
                    return forecasts[k];
                case LEDGERS:
                    return ledgers[k];
                case SHIFTS:
                    return shifts[k];
                default:
                    return null;
            }
        }

        void keep(int sort, int k, Reader reader) {
            if (sort < 0 || sort >= SORTS || k < 0 || k >= OF_A_SORT) {
                return;
            }
            if (k >= counts[sort]) {
                counts[sort] = k + 1;
            }
            Rows rows = rowsIn(sort, k);
            if (sort == COURTS) {
                courts[k].copyFrom(reader.court);
            } else if (sort == SIGHTS) {
                sights[k].copyFrom(reader.sight);
            } else if (rows != null) {
                rows.copyFrom(reader.rowsOf(sort));
            }
        }

        void copyFrom(Told other) {
            System.arraycopy(other.tape, 0, tape, 0, TAPE_MAX);
            System.arraycopy(other.counts, 0, counts, 0, SORTS);
            for (int k = 0; k < OF_A_SORT; k++) {
                courts[k].copyFrom(other.courts[k]);
                sights[k].copyFrom(other.sights[k]);
                balls[k].copyFrom(other.balls[k]);
                forecasts[k].copyFrom(other.forecasts[k]);
                ledgers[k].copyFrom(other.ledgers[k]);
                shifts[k].copyFrom(other.shifts[k]);
            }
            length = other.length;
            fault = other.fault;
            place = other.place;
        }
    }

    /**
     * Reads a tape as a text into rows of its own, so that a text with a FAULT leaves what was told
     * untouched.
     */
    private static final class Reader {
        static final int TOKEN_END = 0;
        static final int TOKEN_WORD = 1;
        static final int TOKEN_NUMBER = 2;
        static final int TOKEN_STOP = 3;
        static final int TOKEN_BAD = 4;

        static final int FAULT_TEXT = 1;
        static final int FAULT_NUMBER = 2;
        static final int FAULT_MANY = 3;
        static final int FAULT_WHOLE = 4;

        final byte[] tape = new byte[TAPE_MAX];
        final Court court = new Court();
        final Sight sight = new Sight();
        final Rows ball = new Rows(DEEDS_MAX, 3);
        final Rows forecast = new Rows(MARKS_MAX, 1);
        final Rows ledger = new Rows(PAWNS_MAX, 3);
        final Rows shifts = new Rows(MAIDS_MAX, 2);
        int length;
        int token;
        int tokenStart;
        int tokenEnd;
        int fault;
        int place;

        void readAll(int sort, Told told) {
            begin(told);
            // A line takes a byte at least, so there are no more lines than bytes.
            for (int line = 0; line < TAPE_MAX && token != TOKEN_END && !isBroken(); line++) {
                switch (sort) {
                    case COURTS:
                        readCourtLine();
                        break;
                    case BALLS:
                        readBallLine();
                        break;
                    case FORECASTS:
                        readForecastLine();
                        break;
                    case SIGHTS:
                        readSightLine();
                        break;
                    case LEDGERS:
                        readLedgerLine();
                        break;
                    default:
                        readShiftsLine();
                        break;
                }
                closeLine();
            }
            if (sort == COURTS && (!court.roomsOfAllAreThere() || court.allWeights() == 0)) {
                noteFault(FAULT_WHOLE, length);
            }
        }

        void begin(Told told) {
            System.arraycopy(told.tape, 0, tape, 0, TAPE_MAX);
            length = Math.max(0, Math.min(TAPE_MAX, told.length));
            court.clear();
            sight.clear();
            ball.clear();
            forecast.clear();
            ledger.clear();
            shifts.clear();
            fault = 0;
            place = NONE;
            tokenEnd = 0;
            nextToken();
        }

        Rows rowsOf(int sort) {
            switch (sort) {
                case BALLS:
                    return ball;
                case FORECASTS:
                    return forecast;
                case LEDGERS:
                    return ledger;
                default:
                    return shifts;
            }
        }

        void readCourtLine() {
            if (isWord("room")) {
                openLine(court.rooms);
                court.rooms.setLast(ROOM_SIZE, takeNumber(1, SIZE_TOP));
                court.rooms.setLast(ROOM_HEIGHT, takeNumber(0, HEIGHT_TOP));
            } else if (isWord("lady")) {
                openLine(court.ladies);
                court.ladies.setLast(LADY_ROOM, takeNumber(0, ROOMS_MAX - 1));
                court.ladies.setLast(LADY_LACE, takeNumber(0, LACE_TOP));
                court.ladies.setLast(LADY_FAINT, takeNumber(0, FAINT_TOP));
                court.ladies.setLast(LADY_BURST, takeNumber(0, BURST_TOP));
                court.ladies.setLast(LADY_GOSSIP, takeNumber(0, MARK_TOP));
            } else if (isWord("proper")) {
                readProper();
            } else {
                readCourtSetting();
            }
        }

        void readProper() {
            openLine(court.steps);
            if (token == TOKEN_NUMBER && court.steps.hasInColumn(STEP_MARK, tokenValue())) {
                noteFault(FAULT_NUMBER, tokenStart);
            }
            court.steps.setLast(STEP_MARK, takeNumber(0, MARK_TOP));
            court.steps.setLast(STEP_LACE, takeNumber(0, LACE_TOP));
        }

        void readCourtSetting() {
            if (isWord("slack")) {
                nextToken();
                court.slack = takeNumber(0, 9);
            } else if (isWord("rest")) {
                nextToken();
                court.rest = takeNumber(1, 9);
            } else if (isWord("glass")) {
                nextToken();
                court.glass = takeNumber(0, MARK_TOP);
            } else if (isWord("wind")) {
                nextToken();
                court.wind[0] = takeNumber(0, 9);
                court.wind[1] = takeNumber(0, 9);
                court.wind[2] = takeNumber(0, 9);
            } else {
                breakHere();
            }
        }

        void readBallLine() {
            int deed = deedOfWord();
            if (deed == NONE) {
                breakHere();
                return;
            }
            openLine(ball);
            ball.setLast(0, deed);
            switch (deed) {
                case DEED_GLASS:
                    ball.setLast(1, takeNumber(0, MARK_TOP));
                    break;
                case DEED_OPEN:
                case DEED_SHUT:
                    ball.setLast(1, takeNumber(0, ROOMS_MAX - 1));
                    break;
                case DEED_SIGH:
                    ball.setLast(1, takeNumber(0, LADIES_MAX - 1));
                    break;
                case DEED_TIE:
                case DEED_LOOSEN:
                    ball.setLast(1, takeNumber(0, LADIES_MAX - 1));
                    ball.setLast(2, takeNumber(1, 9));
                    break;
                case DEED_GO:
                    ball.setLast(1, takeNumber(0, LADIES_MAX - 1));
                    ball.setLast(2, takeNumber(0, ROOMS_MAX - 1));
                    break;
                default:
                    break;
            }
        }

        int deedOfWord() {
            if (isWord("glass")) {
                return DEED_GLASS;
            }
            if (isWord("open")) {
                return DEED_OPEN;
            }
            if (isWord("shut")) {
                return DEED_SHUT;
            }
            if (isWord("sigh")) {
                return DEED_SIGH;
            }
            if (isWord("tie")) {
                return DEED_TIE;
            }
            if (isWord("loosen")) {
                return DEED_LOOSEN;
            }
            if (isWord("go")) {
                return DEED_GO;
            }
            if (isWord("toast")) {
                return DEED_TOAST;
            }
            return isWord("minute") ? DEED_MINUTE : NONE;
        }

        void readForecastLine() {
            if (!isWord("mark")) {
                breakHere();
                return;
            }
            nextToken();
            readMark();
            for (int k = 0; k < TAPE_MAX && token == TOKEN_NUMBER && !isBroken(); k++) {
                readMark();
            }
        }

        void readMark() {
            int start = tokenStart;
            int mark = takeNumber(0, MARK_TOP);
            // The number is looked at ahead of its row: of one place the least FAULT counts.
            addRowAt(forecast, start);
            forecast.setLast(0, mark);
        }

        void readSightLine() {
            boolean fell = isWord("fell");
            if (fell || isWord("stood")) {
                openLine(sight.seen);
                sight.seen.setLast(0, takeNumber(0, LADIES_MAX - 1));
                sight.seen.setLast(1, takeNumber(1, TELLING_MINUTE_TOP));
                sight.seen.setLast(2, fell ? 1 : 0);
            } else if (isWord("shot")) {
                openLine(sight.shots);
                sight.shots.setLast(0, takeNumber(0, LADIES_MAX - 1));
                sight.shots.setLast(1, takeNumber(0, PRESSURE_TOP));
                sight.shots.setLast(2, isWord("fell") ? 1 : 0);
                if (isWord("fell") || isWord("stood")) {
                    nextToken();
                } else {
                    breakHere();
                }
            } else {
                breakHere();
            }
        }

        void readLedgerLine() {
            if (!isWord("owes")) {
                breakHere();
                return;
            }
            openLine(ledger);
            int debtor = takeNumber(0, LADIES_MAX - 1);
            int start = tokenStart;
            int creditor = takeNumber(0, LADIES_MAX - 1);
            if (creditor == debtor) {
                noteFault(FAULT_NUMBER, start);
            }
            ledger.setLast(0, debtor);
            ledger.setLast(1, creditor);
            ledger.setLast(2, takeNumber(1, PAWN_TOP));
        }

        void readShiftsLine() {
            if (!isWord("maid")) {
                breakHere();
                return;
            }
            openLine(shifts);
            int from = takeNumber(0, SHIFT_MINUTE_TOP);
            int start = tokenStart;
            int to = takeNumber(0, SHIFT_MINUTE_TOP);
            shifts.setLast(0, from);
            shifts.setLast(1, to);
            if (to < from) {
                noteFault(FAULT_NUMBER, start);
            }
        }

        void closeLine() {
            if (token == TOKEN_STOP) {
                nextToken();
            } else {
                breakHere();
            }
        }

        /** Takes the word that opens a line, and with it a new row. */
        void openLine(Rows rows) {
            addRowAt(rows, tokenStart);
            nextToken();
        }

        void addRowAt(Rows rows, int start) {
            if (rows.rows >= rows.max) {
                noteFault(FAULT_MANY, start);
            }
            rows.addRow();
        }

        int takeNumber(int low, int high) {
            if (token != TOKEN_NUMBER || isBroken()) {
                breakHere();
                return low;
            }
            int value = tokenValue();
            if (value < low || value > high) {
                noteFault(FAULT_NUMBER, tokenStart);
            }
            nextToken();
            return value;
        }

        boolean isBroken() {
            return fault == FAULT_TEXT;
        }

        /** FAULT 1 stands above the others, wherever these are. */
        void breakHere() {
            if (!isBroken()) {
                fault = FAULT_TEXT;
                place = tokenStart;
            }
        }

        /** The tape is read from its start on, so that the first FAULT noted is first by place. */
        void noteFault(int kind, int start) {
            if (fault == 0) {
                fault = kind;
                place = start;
            }
        }

        void nextToken() {
            tokenStart = tokenEnd;
            while (tokenStart < length && isBlank(byteAt(tokenStart))) {
                tokenStart++;
            }
            tokenEnd = tokenStart + 1;
            int first = byteAt(tokenStart);
            if (tokenStart >= length) {
                tokenEnd = length;
                token = TOKEN_END;
            } else if (isLetter(first)) {
                while (tokenEnd < length && isLetter(byteAt(tokenEnd))) {
                    tokenEnd++;
                }
                token = TOKEN_WORD;
            } else if (isDigit(first)) {
                while (tokenEnd < length && isDigit(byteAt(tokenEnd))) {
                    tokenEnd++;
                }
                token = tokenEnd - tokenStart <= 2 ? TOKEN_NUMBER : TOKEN_BAD;
            } else {
                token = first == ';' ? TOKEN_STOP : TOKEN_BAD;
            }
        }

        int byteAt(int k) {
            return k >= 0 && k < length ? tape[k] & 255 : 0;
        }

        int tokenValue() {
            int value = 0;
            for (int k = tokenStart; k < tokenEnd; k++) {
                value = value * 10 + byteAt(k) - '0';
            }
            return value;
        }

        boolean isWord(String word) {
            if (token != TOKEN_WORD || tokenEnd - tokenStart != word.length()) {
                return false;
            }
            for (int k = 0; k < word.length(); k++) {
                if (byteAt(tokenStart + k) != word.charAt(k)) {
                    return false;
                }
            }
            return true;
        }

        static boolean isBlank(int sign) {
            return sign == 10 || sign == 32;
        }

        static boolean isLetter(int sign) {
            return sign >= 'a' && sign <= 'z';
        }

        static boolean isDigit(int sign) {
            return sign >= '0' && sign <= '9';
        }
    }

    /** A BALL as it goes: the STATE behind the DEEDS done so far. */
    private static final class Hall {
        final int[] air = new int[ROOMS_MAX];
        final boolean[] isShut = new boolean[ROOMS_MAX];
        final int[] room = new int[LADIES_MAX];
        final int[] lace = new int[LADIES_MAX];
        final int[] restLeft = new int[LADIES_MAX];
        final boolean[] isBurst = new boolean[LADIES_MAX];
        final int[] fainted = new int[LADIES_MAX];
        final int[] fallMinute = new int[LADIES_MAX];
        Court court = new Court();
        int done;
        int glass;
        int minutes;
        int knots;
        int tales;
        int toasts;
        int toasted;

        void begin(Court c) {
            court = c;
            glass = c.glass;
            minutes = 0;
            knots = 0;
            tales = 0;
            toasts = 0;
            toasted = NONE;
            Arrays.fill(air, 0);
            Arrays.fill(restLeft, 0);
            Arrays.fill(fainted, 0);
            Arrays.fill(fallMinute, NONE);
            for (int r = 0; r < ROOMS_MAX; r++) {
                isShut[r] = false;
            }
            for (int l = 0; l < LADIES_MAX; l++) {
                isBurst[l] = false;
                room[l] = c.ladies.cell(l, LADY_ROOM);
                lace[l] = c.ladies.cell(l, LADY_LACE);
            }
        }

        /** Does the first n DEEDS: whether all of them could be; how many could is in done. */
        boolean play(Court c, Rows ball, int n) {
            if (c == null || ball == null || n < 0 || n > ball.rows) {
                return false;
            }
            begin(c);
            done = 0;
            while (done < n
                    && doDeed(ball.cell(done, 0), ball.cell(done, 1), ball.cell(done, 2))) {
                done++;
            }
            return done == n;
        }

        /** Does a DEED, or, if it can't be, nothing: false. */
        boolean doDeed(int kind, int first, int second) {
            switch (kind) {
                case DEED_GLASS:
                    glass = first;
                    return true;
                case DEED_OPEN:
                    return turnDoor(first, true);
                case DEED_SHUT:
                    return turnDoor(first, false);
                case DEED_SIGH:
                    return sighs(first);
                case DEED_TIE:
                    return knot(first, second);
                case DEED_LOOSEN:
                    return knot(first, -second);
                case DEED_GO:
                    return goTo(first, second);
                case DEED_TOAST:
                    toasts++;
                    toasted = Integer.bitCount(ladiesWho(IS_UP));
                    return true;
                case DEED_MINUTE:
                    passMinute();
                    return true;
                default:
                    return false;
            }
        }

        boolean hasLady(int l) {
            return l >= 0 && l < LADIES_MAX && l < court.ladies.rows;
        }

        boolean hasRoom(int r) {
            return r >= 0 && r < ROOMS_MAX && r < court.rooms.rows;
        }

        boolean turnDoor(int r, boolean opens) {
            if (!hasRoom(r) || isShut[r] != opens) {
                return false;
            }
            air[r] = glass;
            isShut[r] = !opens;
            return true;
        }

        boolean sighs(int l) {
            if (!hasLady(l) || !isUp(l)) {
                return false;
            }
            int r = room[l];
            if (hasRoom(r) && isShut[r] && court.rooms.cell(r, ROOM_SIZE) <= 3) {
                air[r] = Math.min(MARK_TOP, air[r] + 1);
            }
            return true;
        }

        boolean knot(int l, int more) {
            if (!hasLady(l) || isBurst[l] || !isLace(lace[l] + more)) {
                return false;
            }
            lace[l] += more;
            knots += Math.abs(more);
            return true;
        }

        boolean goTo(int l, int r) {
            if (!hasLady(l) || !hasRoom(r) || !isUp(l)) {
                return false;
            }
            room[l] = r;
            return true;
        }

        void passMinute() {
            minutes++;
            for (int r = 0; r < ROOMS_MAX; r++) {
                if (isShut[r]) {
                    air[r] += Integer.compare(glass, air[r]);
                }
            }
            for (int l = 0; l < LADIES_MAX; l++) {
                restLeft[l] = Math.max(0, restLeft[l] - 1);
            }
            for (int l = 0; l < LADIES_MAX; l++) {
                if (hasLady(l) && isUp(l)) {
                    meetFate(l);
                }
            }
            for (int r = 0; r < ROOMS_MAX; r++) {
                int tellers = tellersIn(r);
                tales += tellers * (tellers - 1) / 2;
            }
        }

        void meetFate(int l) {
            if (l < 0 || l >= LADIES_MAX) {
                return;
            }
            int fate = court.fate(l, lace[l], pressureIn(room[l]));
            if (fate == STANDS) {
                return;
            }
            fallMinute[l] = minutes;
            if (fate == BURSTS) {
                isBurst[l] = true;
            } else {
                fainted[l]++;
                restLeft[l] = court.rest;
            }
        }

        int tellersIn(int r) {
            int tellers = 0;
            for (int l = 0; l < LADIES_MAX; l++) {
                if (hasLady(l) && isUp(l) && room[l] == r
                        && court.ladies.cell(l, LADY_GOSSIP) <= pressureIn(r)) {
                    tellers++;
                }
            }
            return tellers;
        }

        int pressureIn(int r) {
            if (!hasRoom(r)) {
                return 0;
            }
            return (isShut[r] ? air[r] : glass) - court.rooms.cell(r, ROOM_HEIGHT);
        }

        boolean isUp(int l) {
            return l >= 0 && l < LADIES_MAX && !isBurst[l] && restLeft[l] == 0;
        }

        boolean isOne(int l, int who) {
            if (l < 0 || l >= LADIES_MAX || who == IS_UP) {
                return isUp(l);
            }
            return who == IS_BURST ? isBurst[l] : restLeft[l] > 0;
        }

        int ladiesWho(int who) {
            int bits = 0;
            for (int l = 0; l < LADIES_MAX; l++) {
                if (hasLady(l) && isOne(l, who)) {
                    bits |= 1 << l;
                }
            }
            return bits;
        }

        int improper() {
            int bits = 0;
            int proper = court.properAt(glass);
            for (int l = 0; l < LADIES_MAX; l++) {
                if (hasLady(l) && isUp(l) && !court.isNear(lace[l], proper)) {
                    bits |= 1 << l;
                }
            }
            return bits;
        }

        int openRooms() {
            int bits = 0;
            for (int r = 0; r < ROOMS_MAX; r++) {
                if (hasRoom(r) && !isShut[r]) {
                    bits |= 1 << r;
                }
            }
            return bits;
        }

        int tell(int what) {
            switch (what) {
                case 0:
                    return minutes;
                case 1:
                    return glass;
                case 2:
                    return ladiesWho(IS_UP);
                case 3:
                    return ladiesWho(IS_DOWN);
                case 4:
                    return ladiesWho(IS_BURST);
                case 5:
                    return knots;
                case 6:
                    return tales;
                case 7:
                    return improper();
                case 8:
                    return toasts;
                case 9:
                    return toasted;
                case 10:
                    return openRooms();
                default:
                    return what >= 20 && hasRoom(what - 20) ? pressureIn(what - 20) : NO_STATE;
            }
        }

        int tellOf(int l, int what) {
            if (!hasLady(l)) {
                return NO_SUCH;
            }
            switch (what) {
                case 0:
                    return room[l];
                case 1:
                    return lace[l];
                case 2:
                    return restLeft[l];
                case 3:
                    return fainted[l];
                case 4:
                    return fallMinute[l];
                default:
                    return NO_SUCH;
            }
        }

        /** n minutes of weather by a seed, and what is asked of them. */
        int tellWeather(Court c, int seed, int n, int what) {
            begin(c);
            int x = seed;
            int low = glass;
            int high = glass;
            for (int minute = 0; minute < n; minute++) {
                x = x * 1103515245 + 12345;
                glass = c.markAfter(glass, gustOf(x >>> 16));
                low = Math.min(low, glass);
                high = Math.max(high, glass);
                passMinute();
            }
            switch (what) {
                case 0:
                    return glass;
                case 1:
                    return ladiesWho(IS_UP);
                case 2:
                    return ladiesWho(IS_DOWN);
                case 3:
                    return ladiesWho(IS_BURST);
                case 4:
                    return tales;
                case 5:
                    return low;
                case 6:
                    return high;
                default:
                    return what >= 10 && hasLady(what - 10) ? fainted[what - 10] : NONE;
            }
        }

        int gustOf(int number) {
            int all = court.allWeights();
            int left = all > 0 ? number % all : 0;
            if (left < court.wind[0]) {
                return 0;
            }
            return left < court.wind[0] + court.wind[1] ? 1 : 2;
        }
    }

    /** LACED anew: for each minute and LACE ahead of it the KNOTS still needed to the end. */
    private static final class Lacing {
        static final int TOO_FAR = 1000000;

        final int[][] need = new int[MARKS_MAX + 1][LACE_TOP + 1];
        final boolean[] isFit = new boolean[(MARKS_MAX + 1) * (LACE_TOP + 1)];
        final int[] knots = new int[LADIES_MAX];
        int firstLace;

        /** The fewest KNOTS of a lady, or NONE if it can't be. */
        int fewest(Court court, Rows forecast, int lady, boolean proper) {
            firstLace = court.ladies.cell(lady, LADY_LACE);
            int minutes = Math.min(MARKS_MAX, forecast.rows);
            Arrays.fill(need[minutes], 0);
            for (int minute = minutes - 1; minute >= 0; minute--) {
                int mark = forecast.cell(minute, 0);
                int pressure = court.pressureOf(lady, mark);
                int law = court.properAt(mark);
                for (int lace = 0; lace <= LACE_TOP; lace++) {
                    boolean fit = court.stands(lady, lace, pressure)
                            && (!proper || court.isNear(lace, law));
                    isFit[minute * (LACE_TOP + 1) + lace] = fit;
                    need[minute][lace] = fit ? need[minute + 1][lace] : TOO_FAR;
                }
                spreadKnots(minute);
            }
            return isLace(firstLace) && need[0][firstLace] < TOO_FAR ? need[0][firstLace] : NONE;
        }

        /** From a LACE next to another one it takes a KNOT more at most. */
        void spreadKnots(int minute) {
            for (int lace = 1; lace <= LACE_TOP; lace++) {
                need[minute][lace] = Math.min(need[minute][lace], need[minute][lace - 1] + 1);
            }
            for (int lace = LACE_TOP - 1; lace >= 0; lace--) {
                need[minute][lace] = Math.min(need[minute][lace], need[minute][lace + 1] + 1);
            }
        }

        /** The LACE at a minute in the first row, of the lady of the latest fewest(). */
        int laceAt(int minute) {
            int lace = firstLace;
            for (int k = 0; k <= minute && k < MARKS_MAX; k++) {
                lace = leastNextLace(k, lace);
            }
            return lace;
        }

        int leastNextLace(int minute, int from) {
            for (int lace = 0; lace <= LACE_TOP && isLace(from); lace++) {
                if (isFit[minute * (LACE_TOP + 1) + lace]
                        && Math.abs(lace - from) + need[minute + 1][lace] == need[minute][from]) {
                    return lace;
                }
            }
            return from;
        }

        /** n ladies (bits) who need the fewest KNOTS together, or NONE if so many can't. */
        int leastOf(Court court, Rows forecast, int n, boolean proper) {
            for (int lady = 0; lady < LADIES_MAX; lady++) {
                knots[lady] = court.ladies.has(lady)
                        ? fewest(court, forecast, lady, proper) : NONE;
            }
            int best = NONE;
            for (int bits = 0; bits < 1 << court.ladies.rows; bits++) {
                if (Integer.bitCount(bits) == n && knotsOf(bits) != NONE
                        && (best == NONE || knotsOf(bits) < knotsOf(best))) {
                    best = bits;
                }
            }
            return best;
        }

        /** The KNOTS of these ladies together, or NONE if one of them can't. */
        int knotsOf(int bits) {
            int sum = 0;
            for (int lady = 0; lady < LADIES_MAX; lady++) {
                if ((bits >> lady & 1) == 1) {
                    if (knots[lady] == NONE) {
                        return NONE;
                    }
                    sum += knots[lady];
                }
            }
            return sum;
        }
    }

    /** Odds by the WIND: the latest one is top / bottom, in lowest terms. */
    private static final class Odds {
        final long[] now = new long[MARK_TOP + 1];
        final long[] next = new long[MARK_TOP + 1];
        long top;
        long bottom = 1;

        void begin(Court court) {
            Arrays.fill(now, 0L);
            if (isMark(court.glass)) {
                now[court.glass] = 1;
            }
        }

        void blow(Court court) {
            Arrays.fill(next, 0L);
            for (int mark = 0; mark <= MARK_TOP; mark++) {
                for (int gust = 0; gust < 3 && now[mark] != 0; gust++) {
                    next[court.markAfter(mark, gust)] += now[mark] * court.wind[gust];
                }
            }
            System.arraycopy(next, 0, now, 0, MARK_TOP + 1);
        }

        void thenAt(Court court, int mark, int n) {
            begin(court);
            for (int minute = 0; minute < n; minute++) {
                blow(court);
            }
            setOdds(isMark(mark) ? now[mark] : 0, power(court.allWeights(), n));
        }

        void everAt(Court court, int mark, int n) {
            begin(court);
            strike(mark);
            for (int minute = 0; minute < n; minute++) {
                blow(court);
                strike(mark);
            }
            setOddsOfStruck(power(court.allWeights(), n));
        }

        void everFallen(Court court, int lady, int n) {
            begin(court);
            int lace = court.ladies.cell(lady, LADY_LACE);
            for (int minute = 0; minute < n; minute++) {
                blow(court);
                for (int mark = 0; mark <= MARK_TOP; mark++) {
                    if (!court.standsAt(lady, lace, mark)) {
                        strike(mark);
                    }
                }
            }
            setOddsOfStruck(power(court.allWeights(), n));
        }

        /** Ways that came to this mark are followed no further. */
        void strike(int mark) {
            if (isMark(mark)) {
                now[mark] = 0;
            }
        }

        void setOddsOfStruck(long all) {
            long left = 0;
            for (int mark = 0; mark <= MARK_TOP; mark++) {
                left += now[mark];
            }
            setOdds(all - left, all);
        }

        /** Sets the odds to the worth of a forecast; answers the LACE without knowing. */
        int worthOf(Court court, int lady, int pen) {
            int best = 0;
            int without = costUnknown(court, lady, pen, 0);
            for (int lace = 1; lace <= LACE_TOP; lace++) {
                int cost = costUnknown(court, lady, pen, lace);
                if (cost < without) {
                    without = cost;
                    best = lace;
                }
            }
            int with = 0;
            for (int gust = 0; gust < 3; gust++) {
                with += court.wind[gust] * leastCostAfter(court, lady, pen, gust);
            }
            setOdds(without - with, court.allWeights());
            return best;
        }

        static int costUnknown(Court court, int lady, int pen, int lace) {
            int sum = 0;
            for (int gust = 0; gust < 3; gust++) {
                sum += court.wind[gust] * costAfter(court, lady, pen, lace, gust);
            }
            return sum;
        }

        static int leastCostAfter(Court court, int lady, int pen, int gust) {
            int least = costAfter(court, lady, pen, 0, gust);
            for (int lace = 1; lace <= LACE_TOP; lace++) {
                least = Math.min(least, costAfter(court, lady, pen, lace, gust));
            }
            return least;
        }

        static int costAfter(Court court, int lady, int pen, int lace, int gust) {
            int knots = Math.abs(lace - court.ladies.cell(lady, LADY_LACE));
            int mark = court.markAfter(court.glass, gust);
            return court.standsAt(lady, lace, mark) ? knots : knots + pen;
        }

        void setOdds(long n, long d) {
            long divisor = commonDivisor(n, d);
            top = divisor > 0 ? n / divisor : n;
            bottom = divisor > 0 ? d / divisor : d;
        }

        static long commonDivisor(long n, long d) {
            long a = n;
            long b = d;
            // Euclid needs fewer than 100 rounds for any two longs.
            for (int round = 0; round < 100 && b != 0; round++) {
                long left = a % b;
                a = b;
                b = left;
            }
            return a;
        }

        static long power(long base, int n) {
            long product = 1;
            for (int k = 0; k < n; k++) {
                product *= base;
            }
            return product;
        }
    }

    /** Rows of marks by a SIGHT: in how many ways they come to, and go on from, each mark. */
    private static final class Watch {
        final int[][] coming = new int[TELLING_MINUTE_TOP + 1][MARK_TOP + 1];
        final int[][] going = new int[TELLING_MINUTE_TOP + 1][MARK_TOP + 1];
        int last;

        /** In how many ways; NONE if a lady SEEN is not there. */
        int waysOf(Court court, Sight sight) {
            if (!sight.seenAreIn(court)) {
                return NONE;
            }
            last = Math.min(TELLING_MINUTE_TOP, sight.lastMinute());
            come(court, sight);
            goOn();
            int ways = 0;
            for (int mark = 0; mark <= MARK_TOP; mark++) {
                ways += coming[last][mark];
            }
            return ways;
        }

        void come(Court court, Sight sight) {
            Arrays.fill(coming[0], 0);
            if (isMark(court.glass)) {
                coming[0][court.glass] = 1;
            }
            for (int minute = 1; minute <= last && minute <= TELLING_MINUTE_TOP; minute++) {
                for (int mark = 0; mark <= MARK_TOP; mark++) {
                    int ways = nearTo(coming[minute - 1], mark);
                    boolean can = ways != 0 && sight.seenAgree(court, minute, mark);
                    coming[minute][mark] = can ? ways : 0;
                }
            }
        }

        /** Ways on from a mark, through such marks alone as can be come to. */
        void goOn() {
            for (int minute = last; minute >= 0; minute--) {
                for (int mark = 0; mark <= MARK_TOP; mark++) {
                    int ways = minute == last ? 1 : nearTo(going[minute + 1], mark);
                    going[minute][mark] = coming[minute][mark] != 0 ? ways : 0;
                }
            }
        }

        static int nearTo(int[] ways, int mark) {
            int sum = 0;
            for (int near = mark - 1; near <= mark + 1; near++) {
                if (near >= 0 && near < ways.length) {
                    sum += ways[near];
                }
            }
            return sum;
        }

        int leastMark(int minute) {
            if (minute >= 0 && minute <= last) {
                for (int mark = 0; mark <= MARK_TOP; mark++) {
                    if (going[minute][mark] != 0) {
                        return mark;
                    }
                }
            }
            return NONE;
        }

        int mostMark(int minute) {
            if (minute >= 0 && minute <= last) {
                for (int mark = MARK_TOP; mark >= 0; mark--) {
                    if (going[minute][mark] != 0) {
                        return mark;
                    }
                }
            }
            return NONE;
        }
    }

    /** What a LEDGER comes to. PAWNS: who owes, whom, how many. */
    private static final class Debts {
        static final int ALL_LADIES = (1 << LADIES_MAX) - 1;

        final int[] sums = new int[ALL_LADIES + 1];
        final int[] groups = new int[ALL_LADIES + 1];

        static int netOf(Rows pawns, int lady) {
            int sum = 0;
            for (int k = 0; k < pawns.rows; k++) {
                if (pawns.cell(k, 1) == lady) {
                    sum += pawns.cell(k, 2);
                }
                if (pawns.cell(k, 0) == lady) {
                    sum -= pawns.cell(k, 2);
                }
            }
            return sum;
        }

        /**
         * Ladies whose NETS are 0 together settle among themselves by one payment fewer than they
         * are; so the ladies are parted into as many such groups as can be.
         */
        int fewestPayments(Rows pawns) {
            for (int lady = 0; lady < LADIES_MAX; lady++) {
                sums[1 << lady] = netOf(pawns, lady);
            }
            groups[0] = 0;
            for (int bits = 1; bits <= ALL_LADIES; bits++) {
                int lowest = bits & -bits;
                sums[bits] = sums[bits ^ lowest] + sums[lowest];
                groups[bits] = mostGroupsWithoutOne(bits) + (sums[bits] == 0 ? 1 : 0);
            }
            return LADIES_MAX - groups[ALL_LADIES];
        }

        int mostGroupsWithoutOne(int bits) {
            int most = 0;
            for (int lady = 0; lady < LADIES_MAX; lady++) {
                if ((bits >> lady & 1) == 1) {
                    most = Math.max(most, groups[(bits ^ 1 << lady) & ALL_LADIES]);
                }
            }
            return most;
        }

        static int chainOf(Rows pawns) {
            int first = deepestInDebt(pawns);
            int bits = first == NONE ? 0 : 1 << first;
            for (int round = 0; round < LADIES_MAX; round++) {
                for (int k = 0; k < pawns.rows; k++) {
                    if ((bits >> pawns.cell(k, 0) & 1) == 1) {
                        bits |= 1 << pawns.cell(k, 1);
                    }
                }
            }
            return bits;
        }

        static int deepestInDebt(Rows pawns) {
            int deepest = NONE;
            int most = 0;
            for (int lady = 0; lady < LADIES_MAX; lady++) {
                int owed = 0;
                for (int k = 0; k < pawns.rows; k++) {
                    owed += pawns.cell(k, 0) == lady ? pawns.cell(k, 2) : 0;
                }
                if (owed > most) {
                    most = owed;
                    deepest = lady;
                }
            }
            return deepest;
        }
    }

    /** What SHIFTS come to: at each minute the MAIDS (bits) who are there. */
    private static final class Rota {
        final int[] there = new int[SHIFT_MINUTE_TOP + 1];

        void begin(Rows maids) {
            Arrays.fill(there, 0);
            for (int k = 0; k < maids.rows; k++) {
                for (int minute = 0; minute <= SHIFT_MINUTE_TOP; minute++) {
                    if (maids.cell(k, 0) <= minute && minute <= maids.cell(k, 1)) {
                        there[minute] |= 1 << k;
                    }
                }
            }
        }

        /** The first minute at which fewer than k of these MAIDS (bits) are there. */
        int firstGapOf(int bits, int from, int to, int k) {
            for (int minute = Math.max(0, from); minute <= to && minute < there.length; minute++) {
                if (Integer.bitCount(bits & there[minute]) < k) {
                    return minute;
                }
            }
            return NONE;
        }

        int firstGap(int from, int to, int k) {
            return firstGapOf(-1, from, to, k);
        }

        int fewestMaids(int maids, int from, int to, int k) {
            int best = NONE;
            int fewest = maids + 1;
            for (int bits = 0; bits < 1 << maids; bits++) {
                if (Integer.bitCount(bits) < fewest && firstGapOf(bits, from, to, k) == NONE) {
                    fewest = Integer.bitCount(bits);
                    best = bits;
                }
            }
            return best;
        }

        int longestRow(int k) {
            int best = 0;
            int row = 0;
            for (int minute = 0; minute <= SHIFT_MINUTE_TOP; minute++) {
                row = Integer.bitCount(there[minute]) >= k ? row + 1 : 0;
                best = Math.max(best, row);
            }
            return best;
        }
    }
}
