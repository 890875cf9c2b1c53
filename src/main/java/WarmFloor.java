import java.util.Arrays;

/**
 * Too warm by the window: a floor of cells, people with spans and habits, dials that do
 * something or nothing, and what a day of it comes to. See README.md for its use.
 */
public final class WarmFloor {
    public static final int NONE = -1, BAD = -2, NOT = -3, FULL = -4;

    private static final int CELLS = 24;
    private static final int ROW = 6;
    private static final int STEPS = 40;
    private static final int PERSONS = 6;
    private static final int DIALS = 8;

    private static final int MOST_LIKED = 400;
    private static final int MOST_WARMTH = 600;
    private static final int ALL_CELLS = (1 << CELLS) - 1;
    private static final int WHOLE_ROW = (1 << ROW) - 1;
    private static final int NOT_LAST_ROW = (1 << CELLS - ROW) - 1;
    private static final int NOT_LAST_IN_ROW = 0b011111_011111_011111_011111;

    private static final int REAL = 0, FALSE = 1, FAN = 2, HEATER = 3, SHUT = 4, WINDOW = 5;
    private static final int LEAST_NUMBER = 100, MOST_NUMBER = 300, NUMBER_STEP = 10;

    private static final int OUT = 0, FLOW = 1, SOAK = 2, POWER = 3, TOUCH = 4, TRIES = 5;
    private static final int[] LEAST_SETTING = {-200, 0, 0, 0, 0, 1};
    private static final int[] MOST_SETTING = {400, 20, 20, 30, 20, 60};
    private static final int[] FIRST_SETTING = {100, 10, 5, 10, 5, 3};

    private static final int LEAST_TRIED = 180;
    private static final int NUMBERS_TRIED = 8;
    private static final int MOST_PURSE = 9999;
    private static final int MOST_SEATED = 5;
    private static final int MOST_ORDERS = 120;

    private final Floor floor = new Floor();
    private final Sheets sheets = new Sheets();
    private final Day today = new Day(floor);
    private final Day trial = new Day(floor);
    private final Quiet quiet = new Quiet();
    private final Settings settings = new Settings();
    private final Seating seating = new Seating();

    public WarmFloor() {
    }

    // ---- the floor

    public int cell(int cell, int what, int v) {
        if (!isCell(cell) || !isWithin(what, 0, 1) || !isWithin(v, 0, MOST_LIKED)) {
            return BAD;
        }
        int[] row = what == 0 ? floor.warm : floor.stone;
        int was = row[cell];
        row[cell] = v;
        floor.changes++;
        return was;
    }

    public int read(int s, int cell) {
        if (!Sheets.isSheet(s) || !isCell(cell)) {
            return BAD;
        }
        if (sheets.isLost(s)) {
            return sheets.found(Sheets.NULL);
        }
        int most = Math.min(sheets.size(s), CELLS - cell);
        int done = 0;
        while (done < most && isWithin(sheets.item(s, done), 0, MOST_LIKED)) {
            floor.warm[cell + done] = sheets.item(s, done);
            done++;
        }
        floor.changes++;
        return done;
    }

    public int wall(int a, int b, boolean is) {
        if (!isCell(a) || !isCell(b)) {
            return BAD;
        }
        int first = Math.min(a, b);
        int apart = Math.max(a, b) - first;
        if (apart == 1 && !isLastInRow(first)) {
            return floor.putWallBeside(first, is) ? 1 : 0;
        }
        if (apart == ROW) {
            return floor.putWallBelow(first, is) ? 1 : 0;
        }
        return BAD;
    }

    public int set(int what, int v) {
        if (!isWithin(what, OUT, TRIES) || !isWithin(v, LEAST_SETTING[what], MOST_SETTING[what])) {
            return BAD;
        }
        int was = floor.setting[what];
        floor.setting[what] = v;
        floor.changes++;
        return was;
    }

    // ---- persons, dials

    public int person(int cell, int low, int high) {
        if (!isCell(cell) || !isWithin(low, 0, MOST_LIKED) || !isWithin(high, low, MOST_LIKED)) {
            return BAD;
        }
        if (floor.persons >= PERSONS) {
            return FULL;
        }
        int person = floor.persons;
        floor.seat[person] = cell;
        floor.low[person] = low;
        floor.high[person] = high;
        floor.persons++;
        floor.changes++;
        return person;
    }

    public int seat(int person, int cell) {
        if (!isPerson(person) || !isCell(cell)) {
            return BAD;
        }
        int was = floor.seat[person];
        floor.seat[person] = cell;
        floor.changes++;
        return was;
    }

    public int type(int person, int b) {
        if (!isPerson(person) || !isWithin(b, 0, 255)) {
            return BAD;
        }
        Habits habits = floor.habits[person];
        if (habits.length >= Habits.MOST_BYTES) {
            return FULL;
        }
        habits.add(b);
        floor.changes++;
        return habits.length;
    }

    public int wipe(int person) {
        if (!isPerson(person)) {
            return BAD;
        }
        int had = floor.habits[person].length;
        floor.habits[person].clear();
        floor.changes++;
        return had;
    }

    public int fault(int person) {
        return isPerson(person) ? floor.habits[person].faultPlace() : BAD;
    }

    public int dial(int kind, int cell, int number) {
        if (!isWithin(kind, REAL, WINDOW) || !isCell(cell) || !isNumber(kind, number)) {
            return BAD;
        }
        if (floor.dials >= DIALS) {
            return FULL;
        }
        int dial = floor.dials;
        floor.kind[dial] = kind;
        floor.place[dial] = cell;
        floor.start[dial] = number;
        floor.feeler[dial] = cell;
        floor.grilles[dial] = WHOLE_ROW << (cell - cell % ROW);
        floor.dials++;
        floor.changes++;
        return dial;
    }

    public int tune(int dial, int what, int v) {
        if (!isDial(dial) || !isWithin(what, 0, 2)) {
            return BAD;
        }
        if (what == 2) {
            return isNumber(floor.kind[dial], v) ? exchange(floor.start, dial, v) : BAD;
        }
        if (floor.kind[dial] != REAL) {
            return BAD;
        }
        if (what == 1) {
            return isWithin(v, 1, ALL_CELLS) ? exchange(floor.grilles, dial, v) : BAD;
        }
        return isCell(v) ? exchange(floor.feeler, dial, v) : BAD;
    }

    // ---- a run

    public int warmth(int step, int cell, int what) {
        if (!isWithin(step, 0, STEPS) || !isCell(cell) || !isWithin(what, 0, 1)) {
            return BAD;
        }
        Day day = playedToday();
        int at = step * CELLS + cell;
        return what == 0 ? day.warm[at] : day.stone[at];
    }

    public int number(int step, int dial) {
        if (!isStep(step) || !isDial(dial)) {
            return BAD;
        }
        return playedToday().numbers[step * DIALS + dial];
    }

    public int did(int step, int person, int what) {
        if (!isStep(step) || !isPerson(person) || !isWithin(what, 0, 1)) {
            return BAD;
        }
        Day day = playedToday();
        int at = step * PERSONS + person;
        return what == 0 ? day.acted[at] : day.points[at];
    }

    public int all(int person, int what) {
        if (!isPerson(person) || !isWithin(what, 0, 1)) {
            return BAD;
        }
        Day day = playedToday();
        return what == 0 ? day.actsOf[person] : day.pointsOf[person];
    }

    public int run(int what) {
        if (!isWithin(what, 0, 1)) {
            return BAD;
        }
        Day day = playedToday();
        return what == 0 ? day.cost : day.together;
    }

    // ---- harm, fights

    public int harm(int person, int other) {
        if (!isPerson(person) || !isPerson(other) || person == other) {
            return BAD;
        }
        refreshQuiet();
        return quiet.points[person * PERSONS + other] - playedToday().pointsOf[other];
    }

    public int fight(int a, int b) {
        if (!isDial(a) || !isDial(b) || a == b) {
            return BAD;
        }
        Day day = playedToday();
        int steps = 0;
        for (int step = 0; step < STEPS; step++) {
            if (day.isFight(step, a, b)) {
                steps++;
            }
        }
        return steps;
    }

    public int leads(int person, int other) {
        if (!isPerson(person) || !isPerson(other) || person == other) {
            return BAD;
        }
        refreshQuiet();
        return ledBy(playedToday(), person) >> other & 1;
    }

    public int ring() {
        refreshQuiet();
        return ringOf(playedToday());
    }

    // ---- the best

    public int best(int purse, int what) {
        if (!isWithin(purse, 0, MOST_PURSE) || !isWithin(what, 0, 2)) {
            return BAD;
        }
        int first = floor.realDialFrom(0);
        if (first == NONE) {
            return NOT;
        }
        int second = floor.realDialFrom(first + 1);
        refreshSettings(first, second);
        int at = settings.bestWithin(purse);
        if (at == NONE) {
            return NONE;
        }
        if (what == 0) {
            return triedNumber(at / NUMBERS_TRIED);
        }
        if (what == 1) {
            return second == NONE ? NONE : triedNumber(at % NUMBERS_TRIED);
        }
        return settings.points[at];
    }

    public int seats(int seat) {
        if (seat != NONE && !isPerson(seat)) {
            return BAD;
        }
        if (floor.persons > MOST_SEATED) {
            return FULL;
        }
        refreshSeating();
        return seat == NONE ? seating.points : seating.best[seat];
    }

    public int feel(int dial) {
        if (!isReal(dial)) {
            return BAD;
        }
        int best = 0;
        int most = NONE;
        for (int cell = 0; cell < CELLS; cell++) {
            trial.plan.follow(floor);
            trial.plan.feeler[dial] = cell;
            trial.play();
            if (trial.together > most) {
                most = trial.together;
                best = cell;
            }
        }
        return best;
    }

    public int worth(int dial) {
        if (!isDial(dial)) {
            return BAD;
        }
        trial.plan.follow(floor);
        trial.plan.absent = 1 << dial;
        trial.play();
        return playedToday().together - trial.together;
    }

    // ---- votes, beginnings, spans

    public int vote(int s, int dial, int rule) {
        if (!Sheets.isSheet(s) || !isReal(dial) || !isWithin(rule, 0, 1)) {
            return BAD;
        }
        if (sheets.isLost(s)) {
            return sheets.found(Sheets.NULL);
        }
        if (!arePresses(s)) {
            return NOT;
        }
        return votedNumber(s, dial, rule, NONE, 0);
    }

    public int gain(int s, int dial, int rule, int person) {
        if (!isPerson(person)) {
            return BAD;
        }
        int voted = vote(s, dial, rule);
        if (voted < 0) {
            return voted;
        }
        int had = pointsByNumber(dial, voted, person);
        int most = had;
        for (int press = -1; press <= 1; press++) {
            int number = votedNumber(s, dial, rule, person, press);
            if (number != voted) {
                most = Math.max(most, pointsByNumber(dial, number, person));
            }
        }
        return most - had;
    }

    public int monday(int dial, int cell, int warmth, int t) {
        if (!isReal(dial) || !isCell(cell) || !isWithin(warmth, 0, MOST_WARMTH)
                || !isWithin(t, 1, STEPS)) {
            return BAD;
        }
        trial.plan.follow(floor);
        trial.plan.still = (1 << PERSONS) - 1;
        trial.plan.absent = 1 << dial;
        trial.begin();
        trial.playSteps(0, t);
        trial.plan.absent = 0;
        // Each try begins at an earlier STEP, so what was before it still is as without the DIAL.
        for (int begin = t; begin >= 0; begin--) {
            trial.playSteps(begin, t);
            if (trial.warm[t * CELLS + cell] >= warmth) {
                return begin;
            }
        }
        return NONE;
    }

    public int span(int s, int what) {
        if (!Sheets.isSheet(s) || !isWithin(what, 0, 3)) {
            return BAD;
        }
        if (sheets.isLost(s)) {
            return sheets.found(Sheets.NULL);
        }
        if (!arePairs(s)) {
            return NOT;
        }
        Span span = new Span();
        for (int i = 0; i + 1 < sheets.size(s); i += 2) {
            span.learn(sheets.item(s, i), sheets.item(s, i + 1));
        }
        return span.answer(what);
    }

    // ---- sheets

    public int sheet(int s, int form, int n) {
        if (!Sheets.isSheet(s) || !Sheets.isForm(form) || n > Sheets.MOST_ITEMS) {
            return BAD;
        }
        if (n < 0) {
            return sheets.found(Sheets.SIZE);
        }
        sheets.renew(s, form, n);
        return n;
    }

    public int lose(int s) {
        if (!Sheets.isSheet(s)) {
            return BAD;
        }
        if (sheets.isLost(s)) {
            return sheets.found(Sheets.NULL);
        }
        return sheets.drop(s);
    }

    public int lay(int s, int form, int i, int v) {
        if (!Sheets.isSheet(s) || !Sheets.isForm(form)) {
            return BAD;
        }
        int finding = sheets.findingAt(s, form, i);
        if (finding != 0) {
            return sheets.found(finding);
        }
        sheets.put(s, i, v);
        return 1;
    }

    public int get(int s, int form, int i) {
        if (!Sheets.isSheet(s) || !Sheets.isForm(form)) {
            return Integer.MIN_VALUE;
        }
        int finding = sheets.findingAt(s, form, i);
        if (finding != 0) {
            sheets.found(finding);
            return Integer.MIN_VALUE;
        }
        return sheets.item(s, i);
    }

    public int copy(int s, int i, int t, int j, int n) {
        if (!Sheets.isSheet(s) || !Sheets.isSheet(t)) {
            return BAD;
        }
        if (sheets.isLost(s) || sheets.isLost(t)) {
            return sheets.found(Sheets.NULL);
        }
        if (!sheets.areAlike(s, t)) {
            return sheets.found(Sheets.STORE);
        }
        if (!sheets.hasItems(s, i, n) || !sheets.hasItems(t, j, n)) {
            return sheets.found(Sheets.INDEX);
        }
        sheets.move(s, i, t, j, n);
        return 1;
    }

    public int write(int step, int s) {
        if (!isWithin(step, 0, STEPS) || !Sheets.isSheet(s)) {
            return BAD;
        }
        if (sheets.isLost(s)) {
            return sheets.found(Sheets.NULL);
        }
        Day day = playedToday();
        int most = Math.min(sheets.size(s), CELLS);
        for (int i = 0; i < most; i++) {
            sheets.put(s, i, day.warm[step * CELLS + i]);
        }
        return most;
    }

    public int count(int what) {
        switch (what) {
            case 0:
                return floor.persons;
            case 1:
                return floor.dials;
            case 2:
                return Integer.bitCount(floor.wallsBeside) + Integer.bitCount(floor.wallsBelow);
            case 3:
                return floor.setting[OUT];
            case 4:
                return floor.habitBytes();
            case 8:
                return sheets.latest;
            default:
                return BAD;
        }
    }

    public long digest() {
        long h = 17;
        for (int what = 0; what <= 4; what++) {
            h = 31 * h + count(what);
        }
        for (int person = 0; person < floor.persons; person++) {
            h = 31 * h + floor.habits[person].faultPlace();
        }
        Day day = playedToday();
        for (int person = 0; person < floor.persons; person++) {
            h = 31 * h + day.actsOf[person];
            h = 31 * h + day.pointsOf[person];
        }
        h = 31 * h + day.cost;
        h = 31 * h + day.together;
        h = mixedRow(h, day.warm, 0, CELLS);
        h = mixedRow(h, day.warm, CELLS, CELLS);
        h = mixedRow(h, day.warm, 20 * CELLS, CELLS);
        h = mixedRow(h, day.warm, STEPS * CELLS, CELLS);
        h = mixedRow(h, day.numbers, (STEPS - 1) * DIALS, floor.dials);
        refreshQuiet();
        return 31 * h + ringOf(day);
    }

    // ---- what the calls share

    private static long mixedRow(long h, int[] row, int from, int n) {
        long mixed = h;
        for (int i = from; i < from + n && i < row.length; i++) {
            mixed = 31 * mixed + row[i];
        }
        return mixed;
    }

    private static boolean isWithin(int v, int least, int most) {
        return v >= least && v <= most;
    }

    private static boolean isCell(int cell) {
        return isWithin(cell, 0, CELLS - 1);
    }

    private static boolean isLastInRow(int cell) {
        return cell % ROW == ROW - 1;
    }

    private static boolean isStep(int step) {
        return isWithin(step, 0, STEPS - 1);
    }

    private static boolean isNumber(int kind, int number) {
        return kind == REAL ? isWithin(number, LEAST_NUMBER, MOST_NUMBER) : isWithin(number, 0, 1);
    }

    private static int triedNumber(int i) {
        return LEAST_TRIED + NUMBER_STEP * i;
    }

    private boolean isPerson(int person) {
        return isWithin(person, 0, floor.persons - 1);
    }

    private boolean isDial(int dial) {
        return isWithin(dial, 0, floor.dials - 1);
    }

    private boolean isReal(int dial) {
        return isDial(dial) && floor.kind[dial] == REAL;
    }

    private int exchange(int[] row, int dial, int v) {
        int was = row[dial];
        row[dial] = v;
        floor.changes++;
        return was;
    }

    private Day playedToday() {
        if (today.madeAt != floor.changes) {
            today.plan.follow(floor);
            today.play();
            today.madeAt = floor.changes;
        }
        return today;
    }

    private void refreshQuiet() {
        if (quiet.madeAt == floor.changes) {
            return;
        }
        for (int person = 0; person < floor.persons; person++) {
            trial.plan.follow(floor);
            trial.plan.still = 1 << person;
            trial.play();
            System.arraycopy(trial.pointsOf, 0, quiet.points, person * PERSONS, PERSONS);
            System.arraycopy(trial.actsOf, 0, quiet.acts, person * PERSONS, PERSONS);
        }
        quiet.madeAt = floor.changes;
    }

    /** Whom a PERSON leads, as bits; what is quiet must be fresh. */
    private int ledBy(Day day, int person) {
        int led = 0;
        for (int other = 0; other < floor.persons; other++) {
            if (other != person && quiet.acts[person * PERSONS + other] != day.actsOf[other]) {
                led |= 1 << other;
            }
        }
        return led;
    }

    private int ringOf(Day day) {
        int ring = 0;
        for (int person = 0; person < floor.persons; person++) {
            if (comesBack(day, person)) {
                ring |= 1 << person;
            }
        }
        return ring;
    }

    /** Whether a PERSON can be come to from itself by leading. */
    private boolean comesBack(Day day, int person) {
        int reached = ledBy(day, person);
        // No way without a circle is longer than there are PERSONS.
        for (int round = 0; round < PERSONS; round++) {
            int further = reached;
            for (int other = 0; other < floor.persons; other++) {
                if ((reached >> other & 1) == 1) {
                    further |= ledBy(day, other);
                }
            }
            reached = further;
        }
        return (reached >> person & 1) == 1;
    }

    private void refreshSettings(int first, int second) {
        if (settings.madeAt == floor.changes) {
            return;
        }
        settings.seconds = second == NONE ? 1 : NUMBERS_TRIED;
        for (int i = 0; i < NUMBERS_TRIED; i++) {
            for (int j = 0; j < settings.seconds; j++) {
                trial.plan.follow(floor);
                trial.plan.start[first] = triedNumber(i);
                if (second != NONE) {
                    trial.plan.start[second] = triedNumber(j);
                }
                trial.play();
                settings.points[i * NUMBERS_TRIED + j] = trial.together;
                settings.costs[i * NUMBERS_TRIED + j] = trial.cost;
            }
        }
        settings.madeAt = floor.changes;
    }

    private void refreshSeating() {
        if (seating.madeAt == floor.changes) {
            return;
        }
        seating.begin(floor.persons);
        // The orders come from the least on, so the first of like ones is the one asked for.
        boolean more = true;
        for (int tries = 0; more && tries < MOST_ORDERS; tries++) {
            trial.plan.follow(floor);
            for (int i = 0; i < floor.persons; i++) {
                trial.plan.seat[seating.order[i]] = floor.seat[i];
            }
            trial.play();
            seating.note(trial.together);
            more = seating.nextOrder();
        }
        seating.madeAt = floor.changes;
    }

    private boolean arePresses(int s) {
        if (sheets.size(s) != floor.persons) {
            return false;
        }
        for (int i = 0; i < sheets.size(s); i++) {
            if (!isWithin(sheets.item(s, i), -1, 1)) {
                return false;
            }
        }
        return true;
    }

    /** The number by a VOTE, in which one PERSON (NONE: nobody) presses otherwise than told. */
    private int votedNumber(int s, int dial, int rule, int person, int press) {
        int less = 0;
        int more = 0;
        for (int i = 0; i < floor.persons; i++) {
            int v = i == person ? press : sheets.item(s, i);
            if (v < 0) {
                less++;
            } else if (v > 0) {
                more++;
            }
        }
        int tens = rule == 0 ? Integer.compare(more, less) : middle(less, more);
        int number = floor.start[dial] + NUMBER_STEP * tens;
        return isNumber(REAL, number) ? number : floor.start[dial];
    }

    private int middle(int less, int more) {
        if (floor.persons == 0) {
            return 0;
        }
        int place = (floor.persons - 1) / 2;
        if (place < less) {
            return -1;
        }
        return place >= floor.persons - more ? 1 : 0;
    }

    private int pointsByNumber(int dial, int number, int person) {
        trial.plan.follow(floor);
        trial.plan.start[dial] = number;
        trial.play();
        return trial.pointsOf[person];
    }

    private boolean arePairs(int s) {
        int n = sheets.size(s);
        if (n % 2 != 0) {
            return false;
        }
        for (int i = 0; i + 1 < n; i += 2) {
            if (!isWithin(sheets.item(s, i), 0, MOST_LIKED)
                    || !isWithin(sheets.item(s, i + 1), -1, 1)) {
                return false;
            }
        }
        return true;
    }

    /** What has been told: the floor at the beginning of the DAY. */
    private static final class Floor {
        final int[] warm = new int[CELLS];
        final int[] stone = new int[CELLS];
        final int[] setting = FIRST_SETTING.clone();
        /** Bit c: a WALL between c and c + 1. */
        int wallsBeside;
        /** Bit c: a WALL between c and the CELL in the next row. */
        int wallsBelow;
        int persons;
        final int[] seat = new int[PERSONS];
        final int[] low = new int[PERSONS];
        final int[] high = new int[PERSONS];
        final Habits[] habits = new Habits[PERSONS];
        int dials;
        final int[] kind = new int[DIALS];
        final int[] place = new int[DIALS];
        final int[] start = new int[DIALS];
        final int[] feeler = new int[DIALS];
        final int[] grilles = new int[DIALS];
        /** Tells whether what was worked out before still holds. */
        int changes;

        Floor() {
            Arrays.fill(warm, 200);
            Arrays.fill(stone, 200);
            for (int person = 0; person < PERSONS; person++) {
                habits[person] = new Habits();
            }
        }

        boolean putWallBeside(int cell, boolean is) {
            int walls = is ? wallsBeside | 1 << cell : wallsBeside & ~(1 << cell);
            boolean other = walls != wallsBeside;
            wallsBeside = walls;
            changes++;
            return other;
        }

        boolean putWallBelow(int cell, boolean is) {
            int walls = is ? wallsBelow | 1 << cell : wallsBelow & ~(1 << cell);
            boolean other = walls != wallsBelow;
            wallsBelow = walls;
            changes++;
            return other;
        }

        int habitBytes() {
            int bytes = 0;
            for (int person = 0; person < persons; person++) {
                bytes += habits[person].length;
            }
            return bytes;
        }

        int realDialFrom(int from) {
            for (int dial = from; dial < dials; dial++) {
                if (kind[dial] == REAL) {
                    return dial;
                }
            }
            return NONE;
        }
    }

    /** HABITS of a PERSON, taken apart byte by byte as they are typed. */
    private static final class Habits {
        static final int MOST_BYTES = 40;
        /** The shortest part has six bytes with its ; so the seventh is the last to be begun. */
        private static final int MOST_PARTS = 7;
        private static final int MOST_FIGURES = 3;
        private static final int AT_LETTER = 0, AT_NUMBER = 1, AT_DIAL = 2, AT_SIGN = 3, AT_END = 4;

        int length;
        int parts;
        final boolean[] ifCold = new boolean[MOST_PARTS];
        final int[] least = new int[MOST_PARTS];
        final int[] dial = new int[MOST_PARTS];
        final boolean[] up = new boolean[MOST_PARTS];
        private int place = AT_LETTER;
        private int figures;
        private int wrongByte = NONE;

        void clear() {
            length = 0;
            parts = 0;
            place = AT_LETTER;
            figures = 0;
            wrongByte = NONE;
        }

        void add(int b) {
            if (wrongByte == NONE && !goesOn(b)) {
                wrongByte = length;
            }
            length++;
        }

        int faultPlace() {
            if (wrongByte != NONE) {
                return wrongByte;
            }
            return length == 0 || place == AT_END ? NONE : length;
        }

        /** Whether the text can go on with a byte; if so, it has. */
        private boolean goesOn(int b) {
            if (parts >= MOST_PARTS) {
                return false;
            }
            switch (place) {
                case AT_LETTER:
                    return takesLetter(b);
                case AT_NUMBER:
                    return takesNumber(b);
                case AT_DIAL:
                    return takesDial(b);
                case AT_SIGN:
                    return takesSign(b);
                default:
                    return takesEnd(b);
            }
        }

        private boolean takesLetter(int b) {
            if (b != 'k' && b != 'w') {
                return false;
            }
            ifCold[parts] = b == 'k';
            least[parts] = 0;
            figures = 0;
            place = AT_NUMBER;
            return true;
        }

        private boolean takesNumber(int b) {
            if (b == ':' && figures > 0) {
                place = AT_DIAL;
                return true;
            }
            if (b < '0' || b > '9' || figures >= MOST_FIGURES) {
                return false;
            }
            least[parts] = 10 * least[parts] + b - '0';
            figures++;
            return true;
        }

        private boolean takesDial(int b) {
            if (b < '0' || b > '7') {
                return false;
            }
            dial[parts] = b - '0';
            place = AT_SIGN;
            return true;
        }

        private boolean takesSign(int b) {
            if (b != '+' && b != '-') {
                return false;
            }
            up[parts] = b == '+';
            parts++;
            place = AT_END;
            return true;
        }

        private boolean takesEnd(int b) {
            if (b != ';') {
                return false;
            }
            place = AT_LETTER;
            return true;
        }
    }

    /** With what a DAY begins and who takes part: as the floor is, or otherwise in something. */
    private static final class Plan {
        final int[] seat = new int[PERSONS];
        final int[] start = new int[DIALS];
        final int[] feeler = new int[DIALS];
        /** PERSONS without their HABITS, as bits. */
        int still;
        /** DIALS that do nothing and that nobody can press, as bits. */
        int absent;

        void follow(Floor floor) {
            System.arraycopy(floor.seat, 0, seat, 0, PERSONS);
            System.arraycopy(floor.start, 0, start, 0, DIALS);
            System.arraycopy(floor.feeler, 0, feeler, 0, DIALS);
            still = 0;
            absent = 0;
        }
    }

    /** A RUN: STEP by STEP what was, and what it came to. */
    private static final class Day {
        private static final int FAN_MOVES = 10, HEATER_GIVES = 15, WINDOW_PART = 5;
        private static final int HEATER_COST = 2, FAN_COST = 1;

        final Plan plan = new Plan();
        final int[] warm = new int[(STEPS + 1) * CELLS];
        final int[] stone = new int[(STEPS + 1) * CELLS];
        final int[] numbers = new int[STEPS * DIALS];
        final int[] acted = new int[STEPS * PERSONS];
        final int[] points = new int[STEPS * PERSONS];
        final int[] actsOf = new int[PERSONS];
        final int[] pointsOf = new int[PERSONS];
        int cost;
        int together;
        int madeAt = NONE;
        private final Floor floor;
        private final int[] now = new int[DIALS];
        private final int[] falsePresses = new int[PERSONS * DIALS];
        private final int[] given = new int[CELLS];
        private final int[] givenToo = new int[CELLS];

        Day(Floor floor) {
            this.floor = floor;
        }

        void play() {
            begin();
            playSteps(0, STEPS);
        }

        void begin() {
            System.arraycopy(floor.warm, 0, warm, 0, CELLS);
            System.arraycopy(floor.stone, 0, stone, 0, CELLS);
            System.arraycopy(plan.start, 0, now, 0, DIALS);
            Arrays.fill(falsePresses, 0);
            Arrays.fill(actsOf, 0);
            Arrays.fill(pointsOf, 0);
            cost = 0;
            together = 0;
        }

        void playSteps(int from, int to) {
            for (int step = from; step < to && step < STEPS; step++) {
                letPersonsAct(step);
                System.arraycopy(now, 0, numbers, step * DIALS, DIALS);
                Arrays.fill(given, 0);
                flowBetweenCells(step * CELLS);
                letDialsWork(step);
                settle(step * CELLS);
                givePoints(step);
            }
        }

        private void letPersonsAct(int step) {
            for (int person = 0; person < floor.persons; person++) {
                boolean acts = (plan.still >> person & 1) == 0
                        && floor.habits[person].faultPlace() == NONE
                        && doFirstThatFits(person, warm[step * CELLS + plan.seat[person]]);
                acted[step * PERSONS + person] = acts ? 1 : 0;
            }
        }

        /** Does the first of one's HABITS that fits; false: none does. */
        private boolean doFirstThatFits(int person, int felt) {
            Habits habits = floor.habits[person];
            int cold = floor.low[person] - felt;
            int hot = felt - floor.high[person];
            for (int i = 0; i < habits.parts; i++) {
                int by = habits.ifCold[i] ? cold : hot;
                int dial = habits.dial[i];
                if (by >= 1 && by >= habits.least[i] && !isAbsent(dial) && press(person, dial, habits.up[i])) {
                    return true;
                }
            }
            return false;
        }

        /** Whether something can be done with a DIAL now; if so, it is done. */
        private boolean press(int person, int dial, boolean up) {
            int number = up ? 1 : 0;
            if (floor.kind[dial] == REAL) {
                number = now[dial] + (up ? NUMBER_STEP : -NUMBER_STEP);
                if (number < LEAST_NUMBER || number > MOST_NUMBER) {
                    return false;
                }
            }
            if (now[dial] == number) {
                return false;
            }
            if (floor.kind[dial] == FALSE) {
                int at = person * DIALS + dial;
                if (falsePresses[at] >= floor.setting[TRIES]) {
                    return false;
                }
                falsePresses[at]++;
            }
            now[dial] = number;
            return true;
        }

        private boolean isAbsent(int dial) {
            return dial >= floor.dials || (plan.absent >> dial & 1) == 1;
        }

        private void flowBetweenCells(int at) {
            int flow = floor.setting[FLOW];
            int openBeside = ~floor.wallsBeside & NOT_LAST_IN_ROW;
            int openBelow = ~floor.wallsBelow & NOT_LAST_ROW;
            for (int cell = 0; cell < CELLS; cell++) {
                if ((openBeside >> cell & 1) == 1) {
                    flowBetween(at, cell, cell + 1, flow);
                }
                if ((openBelow >> cell & 1) == 1) {
                    flowBetween(at, cell, cell + ROW, flow);
                }
            }
        }

        private void flowBetween(int at, int cell, int next, int flow) {
            int goes = (warm[at + cell] - warm[at + next]) * flow / 100;
            given[cell] -= goes;
            given[next] += goes;
        }

        private void letDialsWork(int step) {
            int shut = shutCells(step);
            for (int dial = 0; dial < floor.dials; dial++) {
                if (!isAbsent(dial)) {
                    addGifts(step, dial, shut, given);
                    cost += costOf(step, dial);
                }
            }
        }

        /** CELLS where a SHUT is that is on, as bits. */
        private int shutCells(int step) {
            int shut = 0;
            for (int dial = 0; dial < floor.dials; dial++) {
                if (floor.kind[dial] == SHUT && numbers[step * DIALS + dial] == 1 && !isAbsent(dial)) {
                    shut |= 1 << floor.place[dial];
                }
            }
            return shut;
        }

        /** Adds what a DIAL gives to CELLS in a STEP (what it takes is below 0). */
        private void addGifts(int step, int dial, int shut, int[] gifts) {
            int kind = floor.kind[dial];
            if (kind == REAL) {
                addGrilles(step, dial, shut, gifts);
                return;
            }
            if (numbers[step * DIALS + dial] == 0) {
                return;
            }
            int cell = floor.place[dial];
            if (kind == FAN) {
                gifts[cell] -= FAN_MOVES;
                gifts[isLastInRow(cell) ? cell - 1 : cell + 1] += FAN_MOVES;
            } else if (kind == HEATER) {
                gifts[cell] += HEATER_GIVES;
            } else if (kind == WINDOW) {
                gifts[cell] -= (warm[step * CELLS + cell] - floor.setting[OUT]) / WINDOW_PART;
            }
        }

        private void addGrilles(int step, int dial, int shut, int[] gifts) {
            int felt = warm[step * CELLS + plan.feeler[dial]];
            int number = numbers[step * DIALS + dial];
            if (felt == number) {
                return;
            }
            int power = felt < number ? floor.setting[POWER] : -floor.setting[POWER];
            int grilles = floor.grilles[dial];
            for (int cell = 0; cell < CELLS; cell++) {
                if ((grilles >> cell & 1) == 1) {
                    gifts[cell] += (shut >> cell & 1) == 1 ? power / 2 : power;
                }
            }
        }

        private int costOf(int step, int dial) {
            int number = numbers[step * DIALS + dial];
            switch (floor.kind[dial]) {
                case REAL:
                    boolean rests = warm[step * CELLS + plan.feeler[dial]] == number;
                    return rests ? 0 : Integer.bitCount(floor.grilles[dial]);
                case FAN:
                    return number * FAN_COST;
                case HEATER:
                    return number * HEATER_COST;
                default:
                    return 0;
            }
        }

        private void settle(int at) {
            int soak = floor.setting[SOAK];
            for (int cell = 0; cell < CELLS; cell++) {
                int was = warm[at + cell];
                int soaks = (was - stone[at + cell]) * soak / 100;
                int comes = was + given[cell] - soaks;
                warm[at + CELLS + cell] = Math.max(0, Math.min(MOST_WARMTH, comes));
                stone[at + CELLS + cell] = stone[at + cell] + soaks;
            }
        }

        private void givePoints(int step) {
            for (int person = 0; person < floor.persons; person++) {
                int at = step * PERSONS + person;
                int felt = warm[(step + 1) * CELLS + plan.seat[person]];
                int outside = Math.max(0, Math.max(floor.low[person] - felt, felt - floor.high[person]));
                points[at] = Math.max(0, 100 - 2 * outside) + acted[at] * floor.setting[TOUCH];
                actsOf[person] += acted[at];
                pointsOf[person] += points[at];
                together += points[at];
            }
        }

        /** Whether one DIAL gives to a CELL in a STEP and the other one takes from it. */
        boolean isFight(int step, int a, int b) {
            Arrays.fill(given, 0);
            Arrays.fill(givenToo, 0);
            int shut = shutCells(step);
            addGifts(step, a, shut, given);
            addGifts(step, b, shut, givenToo);
            for (int cell = 0; cell < CELLS; cell++) {
                if (given[cell] > 0 && givenToo[cell] < 0 || given[cell] < 0 && givenToo[cell] > 0) {
                    return true;
                }
            }
            return false;
        }
    }

    /** What all do and have, if one of them has no HABITS: a row for each such one. */
    private static final class Quiet {
        int madeAt = NONE;
        final int[] points = new int[PERSONS * PERSONS];
        final int[] acts = new int[PERSONS * PERSONS];
    }

    /** POINTS and COST by each pair of numbers of the first two REAL DIALS. */
    private static final class Settings {
        int madeAt = NONE;
        int seconds;
        final int[] points = new int[NUMBERS_TRIED * NUMBERS_TRIED];
        final int[] costs = new int[NUMBERS_TRIED * NUMBERS_TRIED];

        int bestWithin(int purse) {
            int best = NONE;
            int most = NONE;
            for (int i = 0; i < NUMBERS_TRIED; i++) {
                for (int j = 0; j < seconds && j < NUMBERS_TRIED; j++) {
                    int at = i * NUMBERS_TRIED + j;
                    if (costs[at] <= purse && points[at] > most) {
                        most = points[at];
                        best = at;
                    }
                }
            }
            return best;
        }
    }

    /** Who sits in whose SEAT: the order that is tried, and the best one up to now. */
    private static final class Seating {
        int madeAt = NONE;
        int points;
        final int[] order = new int[MOST_SEATED];
        final int[] best = new int[MOST_SEATED];
        private int persons;

        void begin(int n) {
            persons = Math.min(n, MOST_SEATED);
            points = NONE;
            for (int i = 0; i < MOST_SEATED; i++) {
                order[i] = i;
            }
        }

        void note(int reached) {
            if (reached > points) {
                points = reached;
                System.arraycopy(order, 0, best, 0, MOST_SEATED);
            }
        }

        /** Puts the next order by the alphabet; false: that was the last one. */
        boolean nextOrder() {
            int at = persons - 2;
            while (at >= 0 && order[at] > order[at + 1]) {
                at--;
            }
            if (at < 0) {
                return false;
            }
            int with = persons - 1;
            while (with > at && order[with] < order[at]) {
                with--;
            }
            swap(at, with);
            for (int i = at + 1, j = persons - 1; i < j; i++, j--) {
                swap(i, j);
            }
            return true;
        }

        private void swap(int i, int j) {
            int was = order[i];
            order[i] = order[j];
            order[j] = was;
        }
    }

    /** What somebody may like at least and at most, by what it was seen to do. */
    private static final class Span {
        private int leastLow = 0;
        private int mostLow = MOST_LIKED;
        private int leastHigh = 0;
        private int mostHigh = MOST_LIKED;

        void learn(int felt, int act) {
            if (act < 0) {
                leastLow = Math.max(leastLow, felt + 1);
            } else {
                mostLow = Math.min(mostLow, felt);
            }
            if (act > 0) {
                mostHigh = Math.min(mostHigh, felt - 1);
            } else {
                leastHigh = Math.max(leastHigh, felt);
            }
        }

        int answer(int what) {
            // The second is not less than the first, which narrows both.
            int greatestLow = Math.min(mostLow, mostHigh);
            int smallestHigh = Math.max(leastHigh, leastLow);
            if (leastLow > greatestLow || smallestHigh > mostHigh) {
                return NOT;
            }
            switch (what) {
                case 0:
                    return leastLow;
                case 1:
                    return greatestLow;
                case 2:
                    return smallestHigh;
                default:
                    return mostHigh;
            }
        }
    }

    /** SHEETS, each in its part of one row, and the latest FINDING. */
    private static final class Sheets {
        static final int MOST_ITEMS = 60;
        static final int NULL = 1, INDEX = 2, CAST = 3, STORE = 4, SIZE = 5;
        private static final int SHEETS = 4;
        private static final int BYTES = 0, SHORTS = 1, INTS = 2;

        int latest;
        private final int[] form = new int[SHEETS];
        private final int[] length = new int[SHEETS];
        private final int[] items = new int[SHEETS * MOST_ITEMS];

        Sheets() {
            Arrays.fill(form, NONE);
        }

        static boolean isSheet(int s) {
            return isWithin(s, 0, SHEETS - 1);
        }

        static boolean isForm(int form) {
            return isWithin(form, BYTES, INTS);
        }

        int found(int finding) {
            latest = finding;
            return -10 - finding;
        }

        boolean isLost(int s) {
            return form[s] == NONE;
        }

        int size(int s) {
            return length[s];
        }

        int item(int s, int i) {
            return items[s * MOST_ITEMS + i];
        }

        void put(int s, int i, int v) {
            int kept = v;
            if (form[s] == BYTES) {
                kept = (byte) v;
            } else if (form[s] == SHORTS) {
                kept = (short) v;
            }
            items[s * MOST_ITEMS + i] = kept;
        }

        void renew(int s, int newForm, int n) {
            form[s] = newForm;
            length[s] = n;
            Arrays.fill(items, s * MOST_ITEMS, s * MOST_ITEMS + n, 0);
        }

        int drop(int s) {
            form[s] = NONE;
            return length[s];
        }

        /** The FINDING of one who treats item i as of a FORM; 0: there is none. */
        int findingAt(int s, int asForm, int i) {
            if (isLost(s)) {
                return NULL;
            }
            if (form[s] != asForm) {
                return CAST;
            }
            return hasItems(s, i, 1) ? 0 : INDEX;
        }

        boolean areAlike(int s, int t) {
            return form[s] == form[t];
        }

        boolean hasItems(int s, int from, int n) {
            return from >= 0 && n >= 0 && (long) from + n <= length[s];
        }

        void move(int s, int i, int t, int j, int n) {
            System.arraycopy(items, s * MOST_ITEMS + i, items, t * MOST_ITEMS + j, n);
        }
    }
}
