import java.util.Arrays;
import java.util.NoSuchElementException;

/**
 * One boiler and many taps: a HOUSE told as a text, run minute by minute. Words in capitals are the
 * document's (../shared/DOC.md). TEMPERATURES are hundredths of a degree.
 */
public final class BoilerTaps {
    public static final int NONE = -1;

    private static final int MOST_ROOMS = 8;
    private static final int MOST_RADIATORS = 8;
    private static final int MOST_CLAUSES = 40;
    private static final int MOST_HOLIDAYS = 4;
    private static final int MOST_MARKS = 4;
    private static final int MOST_LOG_ROWS = 20;
    private static final int PIPES = 4;
    private static final int PLACES = 10;
    private static final int DAY = 24;
    private static final int HOUR = 60;

    private static final int TAPE_LENGTH = 500;
    private static final int SHORT_TEXT = 200;
    private static final int BYTES_A_FEED = 20;
    private static final int DEEPEST = 6;

    private static final int CANNOT_STAND = 1;
    private static final int NO_SUCH_NUMBER = 2;
    private static final int TOO_MANY = 3;
    private static final int NO_ROOM = 4;
    private static final int FAULT_LESS = 10;

    private static final int FULLY_OPEN = 16;
    private static final int STEP_OF_SLOW = 2;
    private static final int PLAY_OF_SNAP = 20;
    private static final int DRAUGHT_FEELS = 300;
    private static final int HOT_TENTHS = 600;
    private static final int COLDEST = -9_999;
    private static final int HOTTEST = 9_999;
    private static final int METER_END = 100_000_000;
    private static final long LATEST_HOUR = (1L << HOUR) - 1;

    private static final int NO_TAP = 0;
    private static final int SLOW = 2;
    private static final int DRAUGHT = 3;

    private static final int LAST_THING = 46;
    private static final int NO_CAUSE = -2;
    private static final int LONGEST_LOG = 240;
    private static final int LOG_COLUMNS = 3;

    private static final int BALANCED_RADIATORS = 4;
    private static final int BALANCED_MINUTES = 180;
    private static final int MOST_TURNING = BALANCED_RADIATORS * (FULLY_OPEN - 1);
    private static final int LONGEST_TRIAL = 240;
    private static final int WAKE_STEP = 10;

    private static final int MOST_OF_PART = 1_000_000;
    private static final int MOST_OF_BILL = 1_000_000;

    private static final int DIARY_HOURS = 48;
    private static final int DIARY_COLUMNS = 7;
    private static final int DIARY_ROW = MOST_ROOMS * DIARY_COLUMNS;
    private static final int LEAST = 0;
    private static final int GREATEST = 1;
    private static final int MINUTES_OPEN = 2;
    private static final int GOT = 3;
    private static final int LOST_WALLS = 4;
    private static final int LOST_OUTER = 5;
    private static final int LOST_WINDOW = 6;
    private static final int LONG_OPEN = 10;

    private static final int YES = 1;
    private static final int NO = 0;
    private static final int UNDECIDED = -1;

    private final Text tape = new Text();
    private House spareHouse = new House();
    private final Plant plant = new Plant();
    private final Plant trial = new Plant();
    private final Diary hours = new Diary();
    private final Mark[] marks = new Mark[MOST_MARKS];
    private int markCount;
    private Bill billing = new Bill();
    private Bill spareBill = new Bill();
    private Claim claimed = new Claim();
    private Claim spareClaim = new Claim();
    private final int[] errors = new int[MOST_RADIATORS];
    private final int[] parts = new int[MOST_RADIATORS];
    private final int[] gauges = new int[PIPES * PLACES];
    private final int[] logRows = new int[MOST_LOG_ROWS * LOG_COLUMNS];
    private int logCount;

    public BoilerTaps() {
        Arrays.fill(gauges, NONE);
    }

    // ---- texts

    public int feed(int a, int b, int c, int d, int e) {
        if (tape.held + BYTES_A_FEED > TAPE_LENGTH) {
            return NONE;
        }
        tape.put(a);
        tape.put(b);
        tape.put(c);
        tape.put(d);
        tape.put(e);
        return tape.held;
    }

    public int house(int n) throws IllegalArgumentException {
        needWithin(n, 0, tape.held);
        tape.begin(n);
        House told = spareHouse;
        if (!told.readFrom(tape)) {
            return tape.faultKind - FAULT_LESS;
        }
        spareHouse = plant.house;
        plant.house = told;
        beginAnew();
        return told.rooms;
    }

    public int words(int n) throws IllegalArgumentException {
        needWithin(n, 0, Math.min(tape.held, SHORT_TEXT));
        tape.begin(n);
        Bill told = spareBill;
        if (!told.readFrom(tape)) {
            return tape.faultKind - FAULT_LESS;
        }
        spareBill = billing;
        billing = told;
        return 0;
    }

    public int claim(int n) throws IllegalArgumentException {
        needWithin(n, 0, Math.min(tape.held, SHORT_TEXT));
        tape.begin(n);
        Claim told = spareClaim;
        if (!told.readFrom(tape)) {
            return tape.faultKind - FAULT_LESS;
        }
        spareClaim = claimed;
        claimed = told;
        return 0;
    }

    public int fault() {
        return tape.faultPlace;
    }

    private void beginAnew() {
        plant.settings.begin(plant.house.pump);
        plant.state.begin(plant.house);
        plant.taps.begin(plant.house);
        hours.clear();
        Arrays.fill(errors, 0);
        Arrays.fill(gauges, NONE);
        logCount = 0;
        markCount = 0;
    }

    // ---- what is told, and what is

    public int told(int what) throws IllegalArgumentException {
        House h = plant.house;
        switch (what) {
            case 0:
                return h.rooms;
            case 1:
                return h.radiators;
            case 2:
                return h.pump;
            case 3:
                return h.power;
            case 4:
                return h.water;
            case 5:
                return h.clauses;
            default:
                throw new IllegalArgumentException();
        }
    }

    public int room(int room, int what) throws IndexOutOfBoundsException, IllegalArgumentException {
        needRoom(room);
        House h = plant.house;
        State s = plant.state;
        switch (what) {
            case 0:
                return h.mass[room];
            case 1:
                return s.temperature[room];
            case 2:
                return h.outer[room];
            case 3:
                return h.window[room];
            case 4:
                return s.windows >> room & 1;
            case 5:
                return s.lostWalls[room];
            case 6:
                return s.lostOuter[room];
            case 7:
                return s.lostWindow[room];
            case 8:
                return s.gotHeat[room];
            case 9:
                return s.gotSun[room];
            default:
                throw new IllegalArgumentException();
        }
    }

    public int wall(int room, int other) throws IndexOutOfBoundsException {
        needRoom(room);
        needRoom(other);
        return plant.house.walls[room * MOST_ROOMS + other];
    }

    public int radiator(int radiator, int what) throws NoSuchElementException, IllegalArgumentException {
        needRadiator(radiator);
        House h = plant.house;
        State s = plant.state;
        switch (what) {
            case 0:
                return h.radiatorRoom[radiator];
            case 1:
                return h.radiatorPipe[radiator];
            case 2:
                return h.radiatorSize[radiator];
            case 3:
                return h.tapKind[radiator];
            case 4:
                return h.tapSet[radiator];
            case 5:
                return s.opening[radiator];
            case 6:
                return plant.settings.screws[radiator];
            case 7:
                return s.flow[radiator];
            case 8:
                return s.heat[radiator];
            case 9:
                return meterShows(radiator);
            case 10:
                return Long.bitCount(s.turns[radiator]);
            default:
                throw new IllegalArgumentException();
        }
    }

    public int blame(int room) throws IndexOutOfBoundsException {
        needRoom(room);
        State s = plant.state;
        int most = Math.max(s.lostWalls[room], Math.max(s.lostOuter[room], s.lostWindow[room]));
        if (most <= 0) {
            return NONE;
        }
        if (s.lostWalls[room] == most) {
            return 0;
        }
        return s.lostOuter[room] == most ? 1 : 2;
    }

    public int clock(int what) throws IllegalArgumentException {
        State s = plant.state;
        switch (what) {
            case 0:
                return s.minute;
            case 1:
                return s.starts;
            case 2:
                return s.running;
            case 3:
                return hourOf(s.minute);
            default:
                throw new IllegalArgumentException();
        }
    }

    public int hunts(int often) throws IllegalArgumentException {
        needWithin(often, 1, HOUR);
        int hunting = 0;
        for (int k = 0; k < plant.house.radiators; k++) {
            if (Long.bitCount(plant.state.turns[k]) >= often) {
                hunting |= 1 << k;
            }
        }
        return hunting;
    }

    public int dead(int pipe) throws IllegalArgumentException {
        needPipe(pipe);
        return plant.state.dead[pipe];
    }

    public int wear(int start) throws IllegalArgumentException {
        needWithin(start, 0, 999);
        return plant.state.starts * start + plant.state.minutesRun;
    }

    public int count(int what) {
        switch (what) {
            case 0:
                return logCount;
            case 1:
                return markCount;
            case 2:
                return tape.held;
            case 3:
                return Integer.bitCount(plant.state.windows);
            case 4:
                return Integer.bitCount(plant.state.air);
            case 5:
                return plant.house.taps();
            case 6:
                return hours.whole;
            case 7:
                return plant.settings.holidays;
            case 8:
                return gaugesThere();
            default:
                return NONE;
        }
    }

    private int gaugesThere() {
        int there = 0;
        for (int i = 0; i < gauges.length; i++) {
            if (gauges[i] != NONE) {
                there++;
            }
        }
        return there;
    }

    // ---- what is set

    public int out(int hour, int v) throws IllegalArgumentException {
        needWithin(hour, 0, DAY - 1);
        needOut(v);
        int was = plant.settings.outside[hour];
        plant.settings.outside[hour] = v;
        return was;
    }

    public int screw(int radiator, int v) throws NoSuchElementException, IllegalArgumentException {
        needRadiator(radiator);
        needWithin(v, 1, FULLY_OPEN);
        int was = plant.settings.screws[radiator];
        plant.settings.screws[radiator] = v;
        return was;
    }

    public boolean open(int room, boolean is) throws IndexOutOfBoundsException {
        needRoom(room);
        int bits = plant.state.windows;
        plant.state.windows = withBit(bits, room, is);
        return hasBit(bits, room);
    }

    public boolean air(int pipe, boolean is) throws IllegalArgumentException {
        needPipe(pipe);
        int bits = plant.state.air;
        plant.state.air = withBit(bits, pipe, is);
        return hasBit(bits, pipe);
    }

    public int night(int from, int to, int off) throws IllegalArgumentException {
        needWithin(from, 0, DAY - 1);
        needWithin(to, 0, DAY - 1);
        needWithin(off, 0, 200);
        Settings s = plant.settings;
        int was = s.nightOff;
        s.nightFrom = from;
        s.nightTo = to;
        s.nightOff = off;
        return was;
    }

    public int water(int hour, int v) throws IllegalArgumentException {
        needWithin(hour, 0, DAY - 1);
        if (v != 0) {
            needWithin(v, 200, 900);
        }
        int was = plant.settings.waterTold[hour];
        plant.settings.waterTold[hour] = v;
        return was;
    }

    public int holiday(int from, int to, int off) throws IllegalArgumentException {
        needWithin(from, 0, 99_999);
        needWithin(to, from + 1, 99_999);
        needWithin(off, 0, 200);
        Settings s = plant.settings;
        if (s.holidays >= MOST_HOLIDAYS) {
            return -1;
        }
        s.holidayFrom[s.holidays] = from;
        s.holidayTo[s.holidays] = to;
        s.holidayOff[s.holidays] = off;
        s.holidays++;
        return s.holidays;
    }

    public int pump(int v) throws IllegalArgumentException {
        needWithin(v, 1, 999);
        int was = plant.settings.pump;
        plant.settings.pump = v;
        return was;
    }

    // ---- time

    public int go(int minutes) throws IllegalArgumentException, IllegalStateException {
        needWithin(minutes, 0, 999);
        needHouse();
        int all = 0;
        for (int i = 0; i < minutes; i++) {
            all += plant.passMinute();
            hours.note(plant.house, plant.state);
        }
        return all;
    }

    public int mark() {
        if (markCount >= MOST_MARKS) {
            return -1;
        }
        Mark m = marks[markCount];
        if (m == null) {
            m = new Mark();
            marks[markCount] = m;
        }
        m.keep(plant, hours);
        markCount++;
        return markCount;
    }

    public int back() {
        if (markCount <= 0) {
            return -1;
        }
        markCount--;
        Mark m = marks[markCount];
        if (m != null) {
            m.giveBack(plant, hours);
        }
        return markCount;
    }

    // ---- from the LOG back to what is wrong

    public int log(int minute, int room, int v) throws IndexOutOfBoundsException, IllegalArgumentException {
        needRoom(room);
        needWithin(minute, 1, LONGEST_LOG);
        needWithin(v, COLDEST, HOTTEST);
        if (logCount >= MOST_LOG_ROWS) {
            return -1;
        }
        putLogRow(placeInLog(minute), minute, room, v);
        return logCount;
    }

    /** Rows stand by their MINUTES, so that one run through the MINUTES meets them all. */
    private int placeInLog(int minute) {
        int place = logCount;
        while (place > 0 && logRows[(place - 1) * LOG_COLUMNS] > minute) {
            place--;
        }
        return place;
    }

    private void putLogRow(int place, int minute, int room, int v) {
        int at = place * LOG_COLUMNS;
        for (int i = logCount * LOG_COLUMNS - 1; i >= at; i--) {
            logRows[i + LOG_COLUMNS] = logRows[i];
        }
        logRows[at] = minute;
        logRows[at + 1] = room;
        logRows[at + 2] = v;
        logCount++;
    }

    public boolean explained(int wrong, int other, int far) throws IllegalArgumentException, IllegalStateException {
        needThingOrNone(wrong);
        needThingOrNone(other);
        needWithin(far, 0, HOTTEST);
        needHouse();
        return explains(Math.min(wrong, other), Math.max(wrong, other), far);
    }

    public int cause(int far, int which) throws IllegalArgumentException, IllegalStateException {
        needWithin(far, 0, HOTTEST);
        needWithin(which, 0, 1);
        needHouse();
        if (explains(NONE, NONE, far)) {
            return NONE;
        }
        int one = firstPartner(NONE, NONE, far);
        if (one != NONE) {
            return which == 0 ? one : NONE;
        }
        for (int lesser = 0; lesser < LAST_THING; lesser++) {
            int greater = plant.house.hasThing(lesser) ? firstPartner(lesser, lesser, far) : NONE;
            if (greater != NONE) {
                return which == 0 ? lesser : greater;
            }
        }
        return NO_CAUSE;
    }

    public int things() {
        int there = 0;
        for (int thing = 0; thing <= LAST_THING; thing++) {
            if (plant.house.hasThing(thing)) {
                there++;
            }
        }
        return there;
    }

    /** The first thing above a number that, together with the lesser one, explains the LOG. */
    private int firstPartner(int lesser, int above, int far) {
        for (int thing = above + 1; thing <= LAST_THING; thing++) {
            if (plant.house.hasThing(thing) && explains(lesser, thing, far)) {
                return thing;
            }
        }
        return NONE;
    }

    private boolean explains(int lesser, int greater, int far) {
        tryFromBeginning();
        trial.makeWrong(lesser);
        if (greater != lesser) {
            trial.makeWrong(greater);
        }
        for (int row = 0; row < logCount; row++) {
            int at = row * LOG_COLUMNS;
            trial.passMinutes(logRows[at] - trial.state.minute);
            if (Math.abs(trial.state.temperature[logRows[at + 1]] - logRows[at + 2]) > far) {
                return false;
            }
        }
        return true;
    }

    // ---- trials

    /** Where there is no HOUSE there is no RADIATOR either, so that nothing is left for IllegalStateException. */
    public int balanced(int radiator, int out, int want)
            throws NoSuchElementException, IllegalArgumentException, IllegalStateException {
        needRadiator(radiator);
        needOut(out);
        needWithin(want, 0, HOTTEST);
        int way = bestWay(out, want);
        if (way == NONE) {
            return NONE;
        }
        return radiator < balancedRadiators() ? screwByWay(way, radiator) : plant.settings.screws[radiator];
    }

    public int turning(int out, int want) throws IllegalArgumentException, IllegalStateException {
        needOut(out);
        needWithin(want, 0, HOTTEST);
        needHouse();
        int way = bestWay(out, want);
        return way == NONE ? NONE : turningOf(way);
    }

    private int balancedRadiators() {
        return Math.min(BALANCED_RADIATORS, plant.house.radiators);
    }

    /** Ways are counted so that the SCREW of RADIATOR 0 changes last: the first way is the least number. */
    private int screwByWay(int way, int radiator) {
        int places = balancedRadiators() - 1 - radiator;
        return 4 + 4 * (way >> 2 * places & 3);
    }

    private int turningOf(int way) {
        int sum = 0;
        for (int k = 0; k < balancedRadiators(); k++) {
            sum += Math.abs(screwByWay(way, k) - plant.settings.screws[k]);
        }
        return sum;
    }

    /** Trials are dear, so ways are tried by their TURNING: the first that does is the one. */
    private int bestWay(int outside, int want) {
        int ways = 1 << 2 * balancedRadiators();
        for (int sum = 0; sum <= MOST_TURNING; sum++) {
            for (int way = 0; way < ways; way++) {
                if (turningOf(way) == sum && warmByWay(way, outside, want)) {
                    return way;
                }
            }
        }
        return NONE;
    }

    private boolean warmByWay(int way, int outside, int want) {
        tryFromBeginning();
        Arrays.fill(trial.settings.outside, outside);
        for (int k = 0; k < balancedRadiators(); k++) {
            trial.settings.screws[k] = screwByWay(way, k);
        }
        trial.passMinutes(BALANCED_MINUTES);
        return trial.isWarm(want);
    }

    public int wake(int out, int other, int want) throws IllegalArgumentException, IllegalStateException {
        needOut(out);
        needOut(other);
        needWithin(want, 0, HOTTEST);
        needHouse();
        int one = minutesToWake(out, want);
        if (one == NONE || out == other) {
            return one;
        }
        int two = minutesToWake(other, want);
        return two == NONE ? NONE : Math.max(one, two);
    }

    private int minutesToWake(int outside, int want) {
        tryFromNow();
        Arrays.fill(trial.settings.outside, outside);
        trial.settings.nightOff = 0;
        trial.settings.holidays = 0;
        for (int gone = 0; gone <= LONGEST_TRIAL; gone += WAKE_STEP) {
            if (trial.isWarm(want)) {
                return gone;
            }
            trial.passMinutes(WAKE_STEP);
        }
        return NONE;
    }

    public int wish(int radiator, int more, int minutes, int room)
            throws NoSuchElementException, IndexOutOfBoundsException, IllegalArgumentException {
        needRadiator(radiator);
        if (room != NONE) {
            needRoom(room);
        }
        needTap(radiator);
        needWithin(more, 0, 200);
        needWithin(minutes, 0, LONGEST_TRIAL);
        return withWish(radiator, more, minutes, room) - withWish(radiator, 0, minutes, room);
    }

    private int withWish(int radiator, int more, int minutes, int room) {
        tryFromNow();
        trial.taps.goals[radiator] += more;
        int heats = trial.passMinutes(minutes);
        return room == NONE ? heats : trial.state.temperature[room];
    }

    private void tryFromBeginning() {
        trial.house = plant.house;
        trial.settings.copyFrom(plant.settings);
        trial.state.begin(plant.house);
        trial.taps.begin(plant.house);
    }

    private void tryFromNow() {
        trial.house = plant.house;
        trial.settings.copyFrom(plant.settings);
        trial.state.copyFrom(plant.state);
        trial.taps.begin(plant.house);
    }

    // ---- BILLS

    public int error(int radiator, int v) throws NoSuchElementException, IllegalArgumentException {
        needRadiator(radiator);
        needWithin(v, -50, 50);
        int was = errors[radiator];
        errors[radiator] = v;
        return was;
    }

    public int part(int radiator) throws NoSuchElementException {
        needRadiator(radiator);
        return partOf(radiator, allMeters());
    }

    public int pays(int radiator, int bill) throws NoSuchElementException, IllegalArgumentException {
        needRadiator(radiator);
        needWithin(bill, 0, MOST_OF_BILL);
        long all = countParts();
        if (all <= 0) {
            return 0;
        }
        long mine = (long) bill * parts[radiator];
        int share = (int) (mine / all);
        return isAheadInRests(radiator, bill, all) ? share + 1 : share;
    }

    /** Fills parts, and adds them up. */
    private long countParts() {
        int meters = allMeters();
        long all = 0;
        for (int k = 0; k < plant.house.radiators; k++) {
            parts[k] = partOf(k, meters);
            all += parts[k];
        }
        return all;
    }

    /** Whether one of the units that are left when all shares are cut goes to this RADIATOR. */
    private boolean isAheadInRests(int radiator, int sum, long all) {
        if (all <= 0) {
            return false;
        }
        long mine = (long) sum * parts[radiator] % all;
        long rests = 0;
        int ahead = 0;
        for (int k = 0; k < plant.house.radiators; k++) {
            long rest = (long) sum * parts[k] % all;
            rests += rest;
            if (rest > mine || rest == mine && k < radiator) {
                ahead++;
            }
        }
        return ahead < rests / all;
    }

    private int partOf(int radiator, int meters) {
        House h = plant.house;
        billing.meter = meterShows(radiator);
        billing.size = h.radiatorSize[radiator];
        billing.all = meters;
        billing.many = h.radiators;
        billing.set = h.tapSet[radiator];
        return Math.max(0, Math.min(MOST_OF_PART, billing.value()));
    }

    private int allMeters() {
        int all = 0;
        for (int k = 0; k < plant.house.radiators; k++) {
            all += meterShows(k);
        }
        return all;
    }

    private int meterShows(int radiator) {
        int counted = plant.state.meter[radiator];
        return counted + (int) ((long) counted * errors[radiator] / 100);
    }

    // ---- DIARY and CLAIM

    public int diary(int room, int back, int what) throws IndexOutOfBoundsException, IllegalArgumentException {
        needRoom(room);
        needWithin(back, 0, hours.whole - 1);
        needWithin(what, 0, DIARY_COLUMNS - 1);
        return hours.entry(room, back, what);
    }

    public int cold(int room, int below, int by) throws IndexOutOfBoundsException, IllegalArgumentException {
        needRoom(room);
        needWithin(below, COLDEST, HOTTEST);
        needWithin(by, NONE, 3);
        int found = 0;
        for (int back = 0; back < hours.whole; back++) {
            boolean isCold = hours.entry(room, back, LEAST) < below;
            if (isCold && (by == NONE || hours.reason(room, back) == by)) {
                found++;
            }
        }
        return found;
    }

    public int judge() {
        return claimed.verdict(hours, plant.house.rooms);
    }

    // ---- GAUGES

    public int gauge(int pipe, int place, int v) throws IllegalArgumentException {
        needPipe(pipe);
        needWithin(place, 0, PLACES - 1);
        needWithin(v, NONE, 999);
        int at = pipe * PLACES + place;
        int was = gauges[at];
        gauges[at] = v;
        return was;
    }

    public int burst(int pipe, int norm) throws IllegalArgumentException {
        needPipe(pipe);
        needWithin(norm, 0, 99);
        int found = NONE;
        int most = 0;
        int last = NONE;
        for (int place = 0; place < PLACES; place++) {
            if (gauges[pipe * PLACES + place] == NONE) {
                continue;
            }
            int beyond = last == NONE ? 0 : fallBeyond(pipe, last, place, norm);
            if (beyond > most) {
                most = beyond;
                found = last;
            }
            last = place;
        }
        return found;
    }

    private int fallBeyond(int pipe, int place, int next, int norm) {
        int falls = gauges[pipe * PLACES + place] - gauges[pipe * PLACES + next];
        return falls - norm * (next - place);
    }

    // ---- tests of arguments

    private static void needWithin(int v, int least, int most) {
        if (v < least || v > most) {
            throw new IllegalArgumentException();
        }
    }

    private static void needOut(int v) {
        needWithin(v, -4_000, 4_000);
    }

    private static void needPipe(int pipe) {
        needWithin(pipe, 0, PIPES - 1);
    }

    private void needRoom(int room) {
        if (room < 0 || room >= plant.house.rooms) {
            throw new IndexOutOfBoundsException();
        }
    }

    private void needRadiator(int radiator) {
        if (radiator < 0 || radiator >= plant.house.radiators) {
            throw new NoSuchElementException();
        }
    }

    private void needTap(int radiator) {
        if (!plant.house.hasTap(radiator)) {
            throw new IllegalArgumentException();
        }
    }

    private void needThingOrNone(int thing) {
        if (thing != NONE && !plant.house.hasThing(thing)) {
            throw new IllegalArgumentException();
        }
    }

    private void needHouse() {
        if (plant.house.rooms <= 0) {
            throw new IllegalStateException();
        }
    }

    // ---- small things that all use

    private static int hourOf(int minute) {
        return minute / HOUR % DAY;
    }

    private static boolean hasBit(int bits, int which) {
        return (bits >> which & 1) != 0;
    }

    private static int withBit(int bits, int which, boolean is) {
        return is ? bits | 1 << which : bits & ~(1 << which);
    }

    /** The TAPE, and a reader over its first bytes that stops at the first FAULT. */
    private static final class Text {
        private static final int BLANK = 32;
        private static final int BEYOND_ALL = 1_000_000;

        final int[] bytes = new int[TAPE_LENGTH];
        int held;
        int end;
        int at;
        /** Where the latest word or number begins. */
        int from;
        int number;
        int faultKind;
        int faultPlace = NONE;

        void put(int four) {
            for (int shift = 24; shift >= 0; shift -= 8) {
                if (held < TAPE_LENGTH) {
                    bytes[held] = four >>> shift & 255;
                    held++;
                }
            }
        }

        /** The TAPE is empty then, but its bytes stay where they are till they have been read. */
        void begin(int length) {
            end = Math.max(0, Math.min(length, TAPE_LENGTH));
            held = 0;
            at = 0;
            from = 0;
            number = 0;
            faultKind = 0;
            faultPlace = NONE;
        }

        boolean fail(int kind, int place) {
            faultKind = kind;
            faultPlace = place;
            return false;
        }

        private void skipBlanks() {
            while (at < end && bytes[at] == BLANK) {
                at++;
            }
        }

        /** Whether nothing but blanks is left. */
        boolean atEnd() {
            skipBlanks();
            return at >= end;
        }

        boolean mustEnd() {
            return atEnd() || fail(CANNOT_STAND, at);
        }

        boolean takeSign(char sign) {
            skipBlanks();
            if (at >= end || bytes[at] != sign) {
                return false;
            }
            from = at;
            at++;
            return true;
        }

        boolean mustTakeSign(char sign) {
            return takeSign(sign) || fail(CANNOT_STAND, at);
        }

        boolean digitIsNext() {
            return !atEnd() && isDigit(bytes[at]);
        }

        boolean mustTakeNumber(int least, int most) {
            skipBlanks();
            from = at;
            number = 0;
            while (at < end && isDigit(bytes[at])) {
                number = Math.min(number * 10 + bytes[at] - '0', BEYOND_ALL);
                at++;
            }
            if (at == from) {
                return fail(CANNOT_STAND, from);
            }
            return number >= least && number <= most || fail(NO_SUCH_NUMBER, from);
        }

        /** Takes a word: its place in a list of words with one blank between them; NONE if it is not there. */
        int takeWord(String list) {
            skipBlanks();
            from = at;
            while (at < end && bytes[at] >= 'a' && bytes[at] <= 'z') {
                at++;
            }
            int which = 0;
            int begins = 0;
            for (int i = 0; i <= list.length(); i++) {
                if (i < list.length() && list.charAt(i) != BLANK) {
                    continue;
                }
                if (isWord(list, begins, i)) {
                    return which;
                }
                which++;
                begins = i + 1;
            }
            return NONE;
        }

        /** Takes one certain word, or nothing. */
        boolean takeIfWord(String word) {
            if (takeWord(word) != NONE) {
                return true;
            }
            at = from;
            return false;
        }

        private boolean isWord(String list, int begins, int ends) {
            if (ends - begins != at - from || ends > list.length()) {
                return false;
            }
            for (int i = begins; i < ends; i++) {
                if (list.charAt(i) != bytes[from + i - begins]) {
                    return false;
                }
            }
            return true;
        }

        private static boolean isDigit(int c) {
            return c >= '0' && c <= '9';
        }
    }

    /** The HOUSE as its text tells it: nothing in it changes while MINUTES go by. */
    private static final class House {
        private static final String CLAUSES = "room wall outer window sun radiator snap slow draught pump boiler";
        private static final int ROOM = 0;
        private static final int WALL = 1;
        private static final int OUTER = 2;
        private static final int WINDOW = 3;
        private static final int SUN = 4;
        private static final int RADIATOR = 5;
        private static final int PUMP = 9;
        private static final int BOILER = 10;

        int clauses;
        int rooms;
        final int[] mass = new int[MOST_ROOMS];
        final int[] first = new int[MOST_ROOMS];
        final int[] walls = new int[MOST_ROOMS * MOST_ROOMS];
        final int[] outer = new int[MOST_ROOMS];
        final int[] window = new int[MOST_ROOMS];
        final int[] sun = new int[MOST_ROOMS];
        final int[] sunFrom = new int[MOST_ROOMS];
        final int[] sunTo = new int[MOST_ROOMS];
        int radiators;
        final int[] radiatorRoom = new int[MOST_RADIATORS];
        final int[] radiatorPipe = new int[MOST_RADIATORS];
        final int[] radiatorSize = new int[MOST_RADIATORS];
        final int[] tapKind = new int[MOST_RADIATORS];
        final int[] tapSet = new int[MOST_RADIATORS];
        int pump = 100;
        int power = 9_999;
        int water = 600;

        boolean readFrom(Text text) {
            clear();
            for (int i = 0; i <= MOST_CLAUSES && !text.atEnd(); i++) {
                if (!readClause(text)) {
                    return false;
                }
            }
            return rooms > 0 || text.fail(NO_ROOM, text.end);
        }

        private void clear() {
            clauses = 0;
            rooms = 0;
            radiators = 0;
            pump = 100;
            power = 9_999;
            water = 600;
            Arrays.fill(walls, 0);
            Arrays.fill(outer, 0);
            Arrays.fill(window, 0);
            Arrays.fill(sun, 0);
            Arrays.fill(tapKind, NO_TAP);
            Arrays.fill(tapSet, 0);
        }

        private boolean readClause(Text text) {
            int word = text.takeWord(CLAUSES);
            if (word == NONE) {
                return text.fail(CANNOT_STAND, text.from);
            }
            if (isOneTooMany(word)) {
                return text.fail(TOO_MANY, text.from);
            }
            clauses++;
            return readNumbers(text, word) && text.mustTakeSign(';');
        }

        private boolean isOneTooMany(int word) {
            return clauses >= MOST_CLAUSES
                    || word == ROOM && rooms >= MOST_ROOMS
                    || word == RADIATOR && radiators >= MOST_RADIATORS;
        }

        private boolean readNumbers(Text text, int word) {
            switch (word) {
                case ROOM:
                    return readRoom(text);
                case WALL:
                    return readWall(text);
                case OUTER:
                    return readOfRoom(text, outer);
                case WINDOW:
                    return readOfRoom(text, window);
                case SUN:
                    return readSun(text);
                case RADIATOR:
                    return readRadiator(text);
                case PUMP:
                    return readPump(text);
                case BOILER:
                    return readBoiler(text);
                default:
                    return readTap(text, word - RADIATOR);
            }
        }

        private boolean readRoom(Text text) {
            if (rooms >= MOST_ROOMS || !text.mustTakeNumber(1, 99)) {
                return false;
            }
            mass[rooms] = text.number;
            if (!text.mustTakeNumber(0, 400)) {
                return false;
            }
            first[rooms] = text.number * 10;
            rooms++;
            return true;
        }

        private boolean mustTakeRoom(Text text) {
            return text.mustTakeNumber(0, rooms - 1);
        }

        private boolean readWall(Text text) {
            if (!mustTakeRoom(text)) {
                return false;
            }
            int room = text.number;
            if (!mustTakeRoom(text)) {
                return false;
            }
            int other = text.number;
            if (other == room) {
                return text.fail(NO_SUCH_NUMBER, text.from);
            }
            if (!text.mustTakeNumber(0, 99)) {
                return false;
            }
            walls[room * MOST_ROOMS + other] = text.number;
            walls[other * MOST_ROOMS + room] = text.number;
            return true;
        }

        private boolean readOfRoom(Text text, int[] values) {
            if (!mustTakeRoom(text)) {
                return false;
            }
            int room = text.number;
            if (!text.mustTakeNumber(0, 99)) {
                return false;
            }
            values[room] = text.number;
            return true;
        }

        private boolean readSun(Text text) {
            if (!mustTakeRoom(text)) {
                return false;
            }
            int room = text.number;
            if (!text.mustTakeNumber(0, 999)) {
                return false;
            }
            sun[room] = text.number;
            if (!text.mustTakeNumber(0, DAY)) {
                return false;
            }
            sunFrom[room] = text.number;
            if (!text.mustTakeNumber(text.number + 1, DAY)) {
                return false;
            }
            sunTo[room] = text.number;
            return true;
        }

        private boolean readRadiator(Text text) {
            if (radiators >= MOST_RADIATORS || !mustTakeRoom(text)) {
                return false;
            }
            radiatorRoom[radiators] = text.number;
            if (!text.mustTakeNumber(0, PIPES - 1)) {
                return false;
            }
            radiatorPipe[radiators] = text.number;
            if (!text.mustTakeNumber(1, 99)) {
                return false;
            }
            radiatorSize[radiators] = text.number;
            radiators++;
            return true;
        }

        private boolean readTap(Text text, int kind) {
            if (!text.mustTakeNumber(0, radiators - 1)) {
                return false;
            }
            int radiator = text.number;
            if (!text.mustTakeNumber(0, 400)) {
                return false;
            }
            tapKind[radiator] = kind;
            tapSet[radiator] = text.number;
            return true;
        }

        private boolean readPump(Text text) {
            if (!text.mustTakeNumber(1, 999)) {
                return false;
            }
            pump = text.number;
            return true;
        }

        private boolean readBoiler(Text text) {
            if (!text.mustTakeNumber(1, 99_999)) {
                return false;
            }
            power = text.number;
            if (!text.mustTakeNumber(200, 900)) {
                return false;
            }
            water = text.number;
            return true;
        }

        boolean hasTap(int radiator) {
            return radiator >= 0 && radiator < radiators && tapKind[radiator] != NO_TAP;
        }

        int taps() {
            int there = 0;
            for (int k = 0; k < radiators; k++) {
                if (hasTap(k)) {
                    there++;
                }
            }
            return there;
        }

        /** Whether this may be WRONG here: 10 times the kind, and a number. */
        boolean hasThing(int thing) {
            if (thing < 0) {
                return false;
            }
            int number = thing % 10;
            switch (thing / 10) {
                case 0:
                case 1:
                    return hasTap(number);
                case 2:
                    return number < PIPES;
                case 3:
                    return number < rooms;
                case 4:
                    return hasTap(number) && hasTap(number + 1);
                default:
                    return false;
            }
        }

        int sunAt(int room, int hour) {
            return hour >= sunFrom[room] && hour < sunTo[room] ? sun[room] : 0;
        }
    }

    /** What people set, and the weather: kept by MARKS. */
    private static final class Settings {
        final int[] screws = new int[MOST_RADIATORS];
        final int[] outside = new int[DAY];
        final int[] waterTold = new int[DAY];
        int nightFrom;
        int nightTo;
        int nightOff;
        int holidays;
        final int[] holidayFrom = new int[MOST_HOLIDAYS];
        final int[] holidayTo = new int[MOST_HOLIDAYS];
        final int[] holidayOff = new int[MOST_HOLIDAYS];
        int pump = 100;

        void begin(int pumpTold) {
            Arrays.fill(screws, FULLY_OPEN);
            Arrays.fill(outside, 0);
            Arrays.fill(waterTold, 0);
            nightFrom = 0;
            nightTo = 0;
            nightOff = 0;
            holidays = 0;
            pump = pumpTold;
        }

        void copyFrom(Settings other) {
            System.arraycopy(other.screws, 0, screws, 0, MOST_RADIATORS);
            System.arraycopy(other.outside, 0, outside, 0, DAY);
            System.arraycopy(other.waterTold, 0, waterTold, 0, DAY);
            nightFrom = other.nightFrom;
            nightTo = other.nightTo;
            nightOff = other.nightOff;
            holidays = other.holidays;
            System.arraycopy(other.holidayFrom, 0, holidayFrom, 0, MOST_HOLIDAYS);
            System.arraycopy(other.holidayTo, 0, holidayTo, 0, MOST_HOLIDAYS);
            System.arraycopy(other.holidayOff, 0, holidayOff, 0, MOST_HOLIDAYS);
            pump = other.pump;
        }

        /** Tenths that NIGHT or HOLIDAYS take off every GOAL, whichever is most. */
        int offAt(int minute, int hour) {
            int off = isNight(hour) ? nightOff : 0;
            for (int i = 0; i < holidays && i < MOST_HOLIDAYS; i++) {
                if (minute >= holidayFrom[i] && minute < holidayTo[i]) {
                    off = Math.max(off, holidayOff[i]);
                }
            }
            return off;
        }

        private boolean isNight(int hour) {
            if (nightFrom < nightTo) {
                return hour >= nightFrom && hour < nightTo;
            }
            return hour >= nightFrom || hour < nightTo;
        }
    }

    /** What MINUTES change, with windows and AIR: kept by MARKS. */
    private static final class State {
        int minute;
        int windows;
        int air;
        int starts;
        int running;
        int minutesRun;
        final int[] temperature = new int[MOST_ROOMS];
        final int[] lostWalls = new int[MOST_ROOMS];
        final int[] lostOuter = new int[MOST_ROOMS];
        final int[] lostWindow = new int[MOST_ROOMS];
        final int[] gotHeat = new int[MOST_ROOMS];
        final int[] gotSun = new int[MOST_ROOMS];
        /** How far TAPS are open; a RADIATOR without one is always FULLY_OPEN. */
        final int[] opening = new int[MOST_RADIATORS];
        final int[] lastMove = new int[MOST_RADIATORS];
        /** A bit for each of the latest 60 MINUTES in which the TAP TURNED. */
        final long[] turns = new long[MOST_RADIATORS];
        final int[] flow = new int[MOST_RADIATORS];
        final int[] heat = new int[MOST_RADIATORS];
        final int[] meter = new int[MOST_RADIATORS];
        final int[] dead = new int[PIPES];

        void begin(House house) {
            minute = 0;
            windows = 0;
            air = 0;
            starts = 0;
            running = 0;
            minutesRun = 0;
            System.arraycopy(house.first, 0, temperature, 0, MOST_ROOMS);
            Arrays.fill(lostWalls, 0);
            Arrays.fill(lostOuter, 0);
            Arrays.fill(lostWindow, 0);
            Arrays.fill(gotHeat, 0);
            Arrays.fill(gotSun, 0);
            for (int k = 0; k < MOST_RADIATORS; k++) {
                opening[k] = house.hasTap(k) ? 0 : FULLY_OPEN;
            }
            Arrays.fill(lastMove, 0);
            Arrays.fill(turns, 0L);
            Arrays.fill(flow, 0);
            Arrays.fill(heat, 0);
            Arrays.fill(meter, 0);
            Arrays.fill(dead, 0);
        }

        void copyFrom(State other) {
            minute = other.minute;
            windows = other.windows;
            air = other.air;
            starts = other.starts;
            running = other.running;
            minutesRun = other.minutesRun;
            System.arraycopy(other.temperature, 0, temperature, 0, MOST_ROOMS);
            System.arraycopy(other.lostWalls, 0, lostWalls, 0, MOST_ROOMS);
            System.arraycopy(other.lostOuter, 0, lostOuter, 0, MOST_ROOMS);
            System.arraycopy(other.lostWindow, 0, lostWindow, 0, MOST_ROOMS);
            System.arraycopy(other.gotHeat, 0, gotHeat, 0, MOST_ROOMS);
            System.arraycopy(other.gotSun, 0, gotSun, 0, MOST_ROOMS);
            System.arraycopy(other.opening, 0, opening, 0, MOST_RADIATORS);
            System.arraycopy(other.lastMove, 0, lastMove, 0, MOST_RADIATORS);
            System.arraycopy(other.turns, 0, turns, 0, MOST_RADIATORS);
            System.arraycopy(other.flow, 0, flow, 0, MOST_RADIATORS);
            System.arraycopy(other.heat, 0, heat, 0, MOST_RADIATORS);
            System.arraycopy(other.meter, 0, meter, 0, MOST_RADIATORS);
            System.arraycopy(other.dead, 0, dead, 0, PIPES);
        }
    }

    /** How TAPS behave: as the text tells, or as a WRONG thing or a WISH makes them. */
    private static final class Taps {
        /** A bit for each TAP that stays where it is. */
        int held;
        final int[] sees = new int[MOST_RADIATORS];
        final int[] goals = new int[MOST_RADIATORS];

        void begin(House house) {
            held = 0;
            System.arraycopy(house.radiatorRoom, 0, sees, 0, MOST_RADIATORS);
            System.arraycopy(house.tapSet, 0, goals, 0, MOST_RADIATORS);
        }
    }

    /** A HOUSE in motion: the real one, or one that is tried out. */
    private static final class Plant {
        House house = new House();
        final Settings settings = new Settings();
        final State state = new State();
        final Taps taps = new Taps();

        /** All HEATS of so many MINUTES together. */
        int passMinutes(int minutes) {
            int all = 0;
            for (int i = 0; i < minutes; i++) {
                all += passMinute();
            }
            return all;
        }

        int passMinute() {
            int hour = hourOf(state.minute);
            int told = settings.waterTold[hour];
            int water = told == 0 ? house.water : told;
            partFlow();
            giveHeat(water * 10);
            int all = holdToPower();
            runBoiler(all);
            loseThroughWalls();
            loseOutside(settings.outside[hour]);
            gain(hour);
            warmRooms();
            countDead(water >= HOT_TENTHS);
            moveTaps(settings.offAt(state.minute, hour));
            state.minute++;
            return all;
        }

        private int openingOf(int radiator) {
            if ((state.air >> house.radiatorPipe[radiator] & 1) != 0) {
                return 0;
            }
            return Math.min(state.opening[radiator], settings.screws[radiator]);
        }

        private void partFlow() {
            int all = 0;
            for (int k = 0; k < house.radiators; k++) {
                int opening = openingOf(k);
                state.flow[k] = settings.pump * opening;
                all += opening;
            }
            for (int k = 0; k < house.radiators; k++) {
                state.flow[k] = all <= 0 ? 0 : state.flow[k] / all;
            }
        }

        /** FLOW, SIZE and 18,999 hundredths at most stay within 32 bits. */
        private void giveHeat(int water) {
            for (int k = 0; k < house.radiators; k++) {
                int above = water - state.temperature[house.radiatorRoom[k]];
                int heat = state.flow[k] * house.radiatorSize[k] * above / 10_000;
                state.heat[k] = Math.max(0, heat);
            }
        }

        private int holdToPower() {
            int all = allHeats();
            if (all <= house.power || all <= 0) {
                return all;
            }
            for (int k = 0; k < house.radiators; k++) {
                state.heat[k] = (int) ((long) state.heat[k] * house.power / all);
            }
            return allHeats();
        }

        private int allHeats() {
            int all = 0;
            for (int k = 0; k < house.radiators; k++) {
                all += state.heat[k];
            }
            return all;
        }

        private void runBoiler(int heats) {
            int runs = heats > 0 ? 1 : 0;
            if (runs > state.running) {
                state.starts++;
            }
            state.running = runs;
            state.minutesRun += runs;
        }

        /** What one ROOM loses through a wall the other one gains, for both cuts go towards 0. */
        private void loseThroughWalls() {
            Arrays.fill(state.lostWalls, 0);
            for (int room = 0; room < house.rooms; room++) {
                for (int other = room + 1; other < house.rooms; other++) {
                    int wall = house.walls[room * MOST_ROOMS + other];
                    if (wall == 0) {
                        continue;
                    }
                    int lost = wall * (state.temperature[room] - state.temperature[other]) / 100;
                    state.lostWalls[room] += lost;
                    state.lostWalls[other] -= lost;
                }
            }
        }

        private void loseOutside(int outside) {
            for (int room = 0; room < house.rooms; room++) {
                int above = state.temperature[room] - outside;
                boolean isOpen = hasBit(state.windows, room);
                state.lostOuter[room] = house.outer[room] * above / 100;
                state.lostWindow[room] = isOpen ? house.window[room] * above / 100 : 0;
            }
        }

        private void gain(int hour) {
            for (int room = 0; room < house.rooms; room++) {
                state.gotHeat[room] = 0;
                state.gotSun[room] = house.sunAt(room, hour);
            }
            for (int k = 0; k < house.radiators; k++) {
                state.gotHeat[house.radiatorRoom[k]] += state.heat[k];
                state.meter[k] = Math.min(METER_END, state.meter[k] + state.heat[k]);
            }
        }

        private void warmRooms() {
            for (int room = 0; room < house.rooms; room++) {
                int more = state.gotHeat[room] + state.gotSun[room]
                        - state.lostWalls[room] - state.lostOuter[room] - state.lostWindow[room];
                int mass = Math.max(1, house.mass[room]);
                int becomes = state.temperature[room] + more / mass;
                state.temperature[room] = Math.max(COLDEST, Math.min(HOTTEST, becomes));
            }
        }

        private void countDead(boolean isHot) {
            for (int pipe = 0; pipe < PIPES; pipe++) {
                state.dead[pipe]++;
            }
            for (int k = 0; k < house.radiators; k++) {
                if (isHot && state.flow[k] > 0) {
                    state.dead[house.radiatorPipe[k]] = 0;
                }
            }
        }

        private void moveTaps(int off) {
            for (int k = 0; k < house.radiators; k++) {
                int next = nextOpening(k, (taps.goals[k] - off) * 10);
                int move = Integer.compare(next, state.opening[k]);
                boolean turned = move != 0 && move == -state.lastMove[k];
                state.turns[k] = (state.turns[k] << 1 | (turned ? 1L : 0L)) & LATEST_HOUR;
                state.lastMove[k] = move != 0 ? move : state.lastMove[k];
                state.opening[k] = next;
            }
        }

        private int nextOpening(int radiator, int goal) {
            int now = state.opening[radiator];
            int kind = house.tapKind[radiator];
            if (kind == NO_TAP || (taps.held >> radiator & 1) != 0) {
                return now;
            }
            int seen = taps.sees[radiator];
            boolean feels = kind == DRAUGHT && (state.windows >> seen & 1) != 0;
            int warmth = state.temperature[seen] - (feels ? DRAUGHT_FEELS : 0);
            if (kind == SLOW) {
                int step = Integer.compare(goal, warmth) * STEP_OF_SLOW;
                return Math.max(0, Math.min(FULLY_OPEN, now + step));
            }
            if (warmth < goal - PLAY_OF_SNAP) {
                return FULLY_OPEN;
            }
            return warmth > goal + PLAY_OF_SNAP ? 0 : now;
        }

        /** Makes a thing WRONG from the beginning; of two, the lesser is to be told first. */
        void makeWrong(int thing) {
            if (!house.hasThing(thing)) {
                return;
            }
            int number = thing % 10;
            switch (thing / 10) {
                case 0:
                    holdTap(number, 0);
                    break;
                case 1:
                    holdTap(number, FULLY_OPEN);
                    break;
                case 2:
                    state.air = withBit(state.air, number, true);
                    break;
                case 3:
                    state.windows = withBit(state.windows, number, true);
                    break;
                default:
                    exchangeSight(number);
                    break;
            }
        }

        private void holdTap(int radiator, int opening) {
            state.opening[radiator] = opening;
            taps.held = withBit(taps.held, radiator, true);
        }

        private void exchangeSight(int radiator) {
            int seen = taps.sees[radiator];
            taps.sees[radiator] = taps.sees[radiator + 1];
            taps.sees[radiator + 1] = seen;
        }

        /** Whether all ROOMS that have RADIATORS have a TEMPERATURE or more. */
        boolean isWarm(int want) {
            for (int k = 0; k < house.radiators; k++) {
                if (state.temperature[house.radiatorRoom[k]] < want) {
                    return false;
                }
            }
            return true;
        }
    }

    /** The latest whole HOURS of all ROOMS, in a ring, and the HOUR that goes on. */
    private static final class Diary {
        int whole;
        int newest;
        final int[] rows = new int[DIARY_HOURS * DIARY_ROW];
        final int[] goingOn = new int[DIARY_ROW];

        void clear() {
            whole = 0;
            newest = 0;
        }

        void copyFrom(Diary other) {
            whole = other.whole;
            newest = other.newest;
            System.arraycopy(other.rows, 0, rows, 0, DIARY_HOURS * DIARY_ROW);
            System.arraycopy(other.goingOn, 0, goingOn, 0, DIARY_ROW);
        }

        /** Writes down the MINUTE that has just gone by. */
        void note(House house, State state) {
            if (state.minute % HOUR == 1) {
                beginHour();
            }
            for (int room = 0; room < house.rooms; room++) {
                int at = room * DIARY_COLUMNS;
                int warmth = state.temperature[room];
                goingOn[at + LEAST] = Math.min(goingOn[at + LEAST], warmth);
                goingOn[at + GREATEST] = Math.max(goingOn[at + GREATEST], warmth);
                goingOn[at + MINUTES_OPEN] += state.windows >> room & 1;
                goingOn[at + GOT] += state.gotHeat[room];
                goingOn[at + LOST_WALLS] += state.lostWalls[room];
                goingOn[at + LOST_OUTER] += state.lostOuter[room];
                goingOn[at + LOST_WINDOW] += state.lostWindow[room];
            }
            if (state.minute % HOUR == 0) {
                endHour();
            }
        }

        private void beginHour() {
            Arrays.fill(goingOn, 0);
            for (int room = 0; room < MOST_ROOMS; room++) {
                goingOn[room * DIARY_COLUMNS + LEAST] = HOTTEST;
                goingOn[room * DIARY_COLUMNS + GREATEST] = COLDEST;
            }
        }

        private void endHour() {
            newest = (newest + 1) % DIARY_HOURS;
            System.arraycopy(goingOn, 0, rows, newest * DIARY_ROW, DIARY_ROW);
            whole = Math.min(DIARY_HOURS, whole + 1);
        }

        /** Of a whole HOUR that is there. */
        int entry(int room, int hoursBack, int what) {
            int slot = (newest - hoursBack + DIARY_HOURS) % DIARY_HOURS;
            int at = slot * DIARY_ROW + room * DIARY_COLUMNS + what;
            return at >= 0 && at < rows.length ? rows[at] : 0;
        }

        int reason(int room, int hoursBack) {
            if (entry(room, hoursBack, MINUTES_OPEN) >= LONG_OPEN) {
                return 3;
            }
            if (entry(room, hoursBack, GOT) == 0) {
                return 2;
            }
            return entry(room, hoursBack, LOST_WALLS) > entry(room, hoursBack, LOST_OUTER) ? 1 : 0;
        }
    }

    /** What a MARK keeps. */
    private static final class Mark {
        final Settings settings = new Settings();
        final State state = new State();
        final Diary hours = new Diary();

        void keep(Plant plant, Diary diary) {
            settings.copyFrom(plant.settings);
            state.copyFrom(plant.state);
            hours.copyFrom(diary);
        }

        void giveBack(Plant plant, Diary diary) {
            plant.settings.copyFrom(settings);
            plant.state.copyFrom(state);
            diary.copyFrom(hours);
        }
    }

    /** A row of codes behind its parts (postfix), and the stack on which it is reckoned. */
    private static final class Codes {
        /** A text has at least a byte for each code. */
        final int[] codes = new int[SHORT_TEXT];
        int size;
        /** Two things wait at each of seven levels, and one is at hand. */
        final int[] stack = new int[2 * (DEEPEST + 1) + 1];
        int top;

        void add(int code) {
            if (size < codes.length) {
                codes[size] = code;
                size++;
            }
        }

        int at(int place) {
            return place >= 0 && place < size ? codes[place] : 0;
        }

        void push(int v) {
            if (top < stack.length) {
                stack[top] = v;
                top++;
            }
        }

        int pop() {
            if (top <= 0) {
                return 0;
            }
            top--;
            return stack[top];
        }
    }

    /** The WORDS of BILLS; without any, each VALUE is 0. */
    private static final class Bill {
        private static final String NAMES = "meter size all many set";
        /** Codes below 0: names from -1 on, in the order of NAMES, then signs; others are numbers. */
        private static final int METER = -1;
        private static final int SIZE = -2;
        private static final int ALL = -3;
        private static final int MANY = -4;
        private static final int SET = -5;
        private static final int PLUS = -6;
        private static final int MINUS = -7;
        private static final int TIMES = -8;
        private static final int BY = -9;

        private final Codes codes = new Codes();
        int meter;
        int size;
        int all;
        int many;
        int set;

        boolean readFrom(Text text) {
            codes.size = 0;
            return readSum(text, 0) && text.mustEnd();
        }

        private boolean readSum(Text text, int depth) {
            if (!readProduct(text, depth)) {
                return false;
            }
            for (int i = 0; i < SHORT_TEXT; i++) {
                int sign = text.takeSign('+') ? PLUS : text.takeSign('-') ? MINUS : 0;
                if (sign == 0) {
                    return true;
                }
                if (!readProduct(text, depth)) {
                    return false;
                }
                codes.add(sign);
            }
            return true;
        }

        private boolean readProduct(Text text, int depth) {
            if (!readUnit(text, depth)) {
                return false;
            }
            for (int i = 0; i < SHORT_TEXT; i++) {
                int sign = text.takeSign('*') ? TIMES : text.takeSign('/') ? BY : 0;
                if (sign == 0) {
                    return true;
                }
                if (!readUnit(text, depth)) {
                    return false;
                }
                codes.add(sign);
            }
            return true;
        }

        private boolean readUnit(Text text, int depth) {
            if (text.takeSign('(')) {
                if (depth >= DEEPEST) {
                    return text.fail(TOO_MANY, text.from);
                }
                return readSum(text, depth + 1) && text.mustTakeSign(')');
            }
            if (text.digitIsNext()) {
                if (!text.mustTakeNumber(0, 9_999)) {
                    return false;
                }
                codes.add(text.number);
                return true;
            }
            int name = text.takeWord(NAMES);
            if (name == NONE) {
                return text.fail(CANNOT_STAND, text.from);
            }
            codes.add(METER - name);
            return true;
        }

        int value() {
            codes.top = 0;
            for (int i = 0; i < codes.size; i++) {
                reckon(codes.at(i));
            }
            return codes.pop();
        }

        private void reckon(int code) {
            if (code > PLUS) {
                codes.push(code >= 0 ? code : named(code));
                return;
            }
            int right = codes.pop();
            int left = codes.pop();
            codes.push(joined(code, left, right));
        }

        private int named(int code) {
            switch (code) {
                case METER:
                    return meter;
                case SIZE:
                    return size;
                case ALL:
                    return all;
                case MANY:
                    return many;
                case SET:
                    return set;
                default:
                    return 0;
            }
        }

        private static int joined(int code, int left, int right) {
            switch (code) {
                case PLUS:
                    return left + right;
                case MINUS:
                    return left - right;
                case TIMES:
                    return left * right;
                case BY:
                    return right == 0 ? 0 : left / right;
                default:
                    return 0;
            }
        }
    }

    /** What a lodger claims, to be judged by the DIARY. */
    private static final class Claim {
        private static final String NAMES = "under over opened got not";
        private static final int UNDER = 0;
        private static final int OVER = 1;
        private static final int OPENED = 2;
        private static final int NOT = 4;
        private static final int AND = 5;
        private static final int OR = 6;

        private final Codes codes = new Codes();

        boolean readFrom(Text text) {
            codes.size = 0;
            return readOr(text, 0) && text.mustEnd();
        }

        private boolean readOr(Text text, int depth) {
            if (!readAnd(text, depth)) {
                return false;
            }
            for (int i = 0; i < SHORT_TEXT && text.takeIfWord("or"); i++) {
                if (!readAnd(text, depth)) {
                    return false;
                }
                codes.add(OR);
            }
            return true;
        }

        private boolean readAnd(Text text, int depth) {
            if (!readOne(text, depth)) {
                return false;
            }
            for (int i = 0; i < SHORT_TEXT && text.takeIfWord("and"); i++) {
                if (!readOne(text, depth)) {
                    return false;
                }
                codes.add(AND);
            }
            return true;
        }

        private boolean readOne(Text text, int depth) {
            boolean isBracket = text.takeSign('[');
            int name = isBracket ? NONE : text.takeWord(NAMES);
            if (!isBracket && name == NONE) {
                return text.fail(CANNOT_STAND, text.from);
            }
            if (!isBracket && name != NOT) {
                return readSaying(text, name);
            }
            if (depth >= DEEPEST) {
                return text.fail(TOO_MANY, text.from);
            }
            if (isBracket) {
                return readOr(text, depth + 1) && text.mustTakeSign(']');
            }
            if (!readOne(text, depth + 1)) {
                return false;
            }
            codes.add(NOT);
            return true;
        }

        /** A saying is five codes: its name, ROOM, tenths (0, where none are told), and both HOURS. */
        private boolean readSaying(Text text, int name) {
            codes.add(name);
            if (!text.mustTakeNumber(0, MOST_ROOMS - 1)) {
                return false;
            }
            codes.add(text.number);
            boolean hasTenths = name == UNDER || name == OVER;
            if (hasTenths && !text.mustTakeNumber(0, 400)) {
                return false;
            }
            codes.add(hasTenths ? text.number : 0);
            if (!text.mustTakeNumber(0, DIARY_HOURS - 1)) {
                return false;
            }
            codes.add(text.number);
            if (!text.mustTakeNumber(text.number, DIARY_HOURS - 1)) {
                return false;
            }
            codes.add(text.number);
            return true;
        }

        int verdict(Diary diary, int rooms) {
            if (codes.size == 0) {
                return UNDECIDED;
            }
            codes.top = 0;
            for (int i = 0; i < codes.size; i++) {
                int code = codes.at(i);
                if (code < NOT) {
                    codes.push(verdictOf(i, diary, rooms));
                    i += 4;
                } else if (code == NOT) {
                    int one = codes.pop();
                    codes.push(one == UNDECIDED ? UNDECIDED : YES - one);
                } else {
                    codes.push(joined(codes.pop(), codes.pop(), code == AND ? NO : YES));
                }
            }
            return codes.pop();
        }

        /** One that decides settles it; else one that is UNDECIDED leaves it so; else both are the other. */
        private static int joined(int one, int other, int decides) {
            if (one == decides || other == decides) {
                return decides;
            }
            return one == UNDECIDED || other == UNDECIDED ? UNDECIDED : YES - decides;
        }

        private int verdictOf(int place, Diary diary, int rooms) {
            int name = codes.at(place);
            int room = codes.at(place + 1);
            int bound = codes.at(place + 2) * 10;
            int last = codes.at(place + 4);
            if (room >= rooms || last >= diary.whole) {
                return UNDECIDED;
            }
            boolean forEach = name == UNDER || name == OVER;
            for (int hour = codes.at(place + 3); hour <= last; hour++) {
                if (holds(name, diary, room, hour, bound) != forEach) {
                    return forEach ? NO : YES;
                }
            }
            return forEach ? YES : NO;
        }

        private static boolean holds(int name, Diary diary, int room, int hour, int bound) {
            switch (name) {
                case UNDER:
                    return diary.entry(room, hour, LEAST) < bound;
                case OVER:
                    return diary.entry(room, hour, GREATEST) > bound;
                case OPENED:
                    return diary.entry(room, hour, MINUTES_OPEN) > 0;
                default:
                    return diary.entry(room, hour, GOT) > 0;
            }
        }
    }
}
