import java.util.Arrays;

public final class WaterCruise {
    public static final int NONE = -1, NO = -1000000;

    private static final int STATION_ROOM = 8, CAST_ROOM = 30, HAND_ROOM = 8, SAMPLE_ROOM = 250;
    private static final int BOTTLE_ROOM = 8, SHEET_ROOM = 4, SHEET_SIZE = 100, READING_ROOM = 91;
    private static final int BOXES = 5, BOX_PLACES = 12, TAPE_ROOM = 160, LINE_ROOM = 12, TRACE_ROOM = 50;
    private static final int LAST_HOUR = 200, LAST_MINUTE = 12000, FULL_BOTTLE = 10, READING_STEP = 10;

    private static final int WRONG = 1, NO_ROOM = 2, NOT_SO = 3;
    private static final int NOTHING = 10, OTHER_SORT = 11, OUTSIDE = 12, BELOW_ZERO = 13, DOES_NOT_FIT = 14, BY_ZERO = 15;

    private static final int KINDS = 6, BOTTLES_KIND = 1, CORE_KIND = 3, MOOR_KIND = 4;
    private static final int[] KIND_ABOVE = {NONE, 0, 0, 0, 3, 0};
    private static final int[] DEPTH_A_MINUTE = {60, 60, 30, 90, 90, 0};
    private static final int[] MINUTES_MORE = {0, 0, 0, 15, 45, 0};

    private static final int MISSING = -1, BYTES = 0, SHORTS = 1, FLOATS = 2;
    /** Stands in a row of eighths where there is no number; no cell can hold it otherwise. */
    private static final int NO_NUMBER = NO;

    private static final int KEPT = 0, USED = 1, LOST = 2;

    private final Station[] stations = new Station[STATION_ROOM];
    private int stationCount = 0;
    private final boolean[] fitHours = new boolean[LAST_HOUR + 1];
    private int shipSpeed = 5;
    private final Planner planner = new Planner();
    private final Cast[] casts = new Cast[CAST_ROOM];
    private int castCount = 0;
    private final Hand[] hands = new Hand[HAND_ROOM];
    private int handCount = 0;
    private final LineReader reader = new LineReader();
    private final int[] bottleValues = new int[LineReader.VALUES];
    private int minute = 0;
    private final Sample[] samples = new Sample[SAMPLE_ROOM];
    private int sampleCount = 0;
    private final int[] places = new int[BOXES * BOX_PLACES];
    private final Acts acts = new Acts();
    private final Sheet[] sheets = new Sheet[SHEET_ROOM];
    private int latestStatus = 0;

    public WaterCruise() {
        Arrays.fill(places, NONE);
        for (int i = 0; i < fitHours.length; i++) {
            fitHours[i] = true;
        }
        for (int i = 0; i < sheets.length; i++) {
            sheets[i] = new Sheet();
        }
    }

    // ---- stations, hours and the ship

    public int station(int x, int y, int depth, int worth) {
        if (!within(x, -50, 50) || !within(y, -50, 50) || !within(depth, 1, 900) || !within(worth, 1, 99)) {
            return refused(WRONG);
        }
        if (stationCount >= STATION_ROOM) {
            return refused(NO_ROOM);
        }
        stations[stationCount] = new Station(x, y, depth, worth);
        stationCount++;
        return planChanged(stationCount - 1);
    }

    public int window(int station, int from, int to, int light) {
        Station s = stationAt(station);
        if (s == null || from < 0 || from > to || to > LAST_HOUR || !within(light, 0, 2)) {
            return refused(WRONG);
        }
        s.from = from;
        s.to = to;
        s.light = light;
        return planChanged(1);
    }

    public int ahead(int a, int b) {
        Station first = stationAt(a);
        Station second = stationAt(b);
        if (first == null || second == null || a == b) {
            return refused(WRONG);
        }
        boolean was = (second.aheadBits >> a & 1) == 1;
        second.aheadBits |= 1 << a;
        return planChanged(was ? 0 : 1);
    }

    public int fit(int a, int b, boolean is) {
        if (a < 0 || a > b || b > LAST_HOUR) {
            return refused(WRONG);
        }
        for (int i = a; i <= b; i++) {
            fitHours[i] = is;
        }
        return planChanged(fitCount());
    }

    public int speed(int n) {
        if (!within(n, 1, 20)) {
            return refused(WRONG);
        }
        int was = shipSpeed;
        shipSpeed = n;
        return planChanged(was);
    }

    public int stationTold(int station, int what) {
        Station s = stationAt(station);
        if (s == null) {
            return NO;
        }
        switch (what) {
            case 0: return s.x;
            case 1: return s.y;
            case 2: return s.depth;
            case 3: return s.worth;
            case 4: return s.from;
            case 5: return s.to;
            case 6: return s.light;
            case 7: return s.aheadBits;
            case 8: return hoursLasting(station);
            case 9: return hoursFromNearest(station);
            default: return NO;
        }
    }

    public int plan(int what) {
        workOutPlan();
        switch (what) {
            case 0: return planner.bestWorth;
            case 1: return planner.bestEnd;
            case 2: return planner.bestSize;
            default: return NONE;
        }
    }

    public int planned(int i, int what) {
        workOutPlan();
        if (i < 0 || i >= planner.bestSize) {
            return NONE;
        }
        switch (what) {
            case 0: return planner.bestRow[i];
            case 1: return planner.bestHours[i];
            default: return NONE;
        }
    }

    private int planChanged(int answer) {
        planner.stale = true;
        return done(answer);
    }

    private void workOutPlan() {
        if (!planner.stale) {
            return;
        }
        planner.clear(stationCount);
        for (int i = 0; i < stationCount; i++) {
            Station s = stations[i];
            if (s != null) {
                planner.tell(i, s, hoursLasting(i), fitHours);
                for (int j = 0; j < stationCount; j++) {
                    planner.tellWay(j, i, hoursBetween(j, i));
                }
                planner.tellWay(Planner.START, i, s.hoursFrom(0, 0, shipSpeed));
            }
        }
        planner.search();
        planner.stale = false;
    }

    private int hoursLasting(int station) {
        int minutes = 0;
        for (int i = 0; i < castCount; i++) {
            Cast c = casts[i];
            if (c != null && c.station == station && c.began == NONE) {
                minutes += c.minutes();
            }
        }
        return Math.max(1, roundedUp(minutes, 60));
    }

    private int hoursFromNearest(int station) {
        int least = NONE;
        for (int i = 0; i < stationCount; i++) {
            int hours = hoursBetween(i, station);
            if (i != station && (least == NONE || hours < least)) {
                least = hours;
            }
        }
        return Math.max(0, least);
    }

    private int hoursBetween(int a, int b) {
        Station from = stationAt(a);
        Station to = stationAt(b);
        return from == null || to == null ? 0 : to.hoursFrom(from.x, from.y, shipSpeed);
    }

    private int fitCount() {
        int n = 0;
        for (int i = 0; i < fitHours.length; i++) {
            n += fitHours[i] ? 1 : 0;
        }
        return n;
    }

    // ---- casts and bottles

    public int cast(int kind, int station, int depth) {
        Station s = stationAt(station);
        if (s == null || !within(kind, 0, KINDS - 1)) {
            return refused(WRONG);
        }
        int deep = isUnder(kind, CORE_KIND) ? s.depth : depth;
        if (!within(deep, 1, s.depth)) {
            return refused(WRONG);
        }
        if (castCount >= CAST_ROOM) {
            return refused(NO_ROOM);
        }
        casts[castCount] = new Cast(castCount, kind, station, deep);
        castCount++;
        return planChanged(castCount - 1);
    }

    public int bottle(int cast, int depth) {
        Cast c = castAt(cast);
        if (c == null || c.kind != BOTTLES_KIND || depth < 0) {
            return refused(WRONG);
        }
        if (c.bottleCount >= c.bottles.length) {
            return refused(NO_ROOM);
        }
        if (c.began != NONE || depth > c.deepestNext()) {
            return refused(NOT_SO);
        }
        c.bottles[c.bottleCount] = new Bottle(depth);
        c.bottleCount++;
        return planChanged(c.bottleCount - 1);
    }

    public int fail(int cast, int bottle) {
        Cast c = castAt(cast);
        Bottle b = bottleAt(c, bottle);
        if (c == null || b == null) {
            return refused(WRONG);
        }
        if (b.fails || c.began != NONE) {
            return refused(NOT_SO);
        }
        b.fails = true;
        return done(1);
    }

    public int does(int cast) {
        Cast c = castAt(cast);
        if (c == null) {
            return refused(WRONG);
        }
        if (minute + c.minutes() > LAST_MINUTE) {
            return refused(NO_ROOM);
        }
        if (c.began != NONE) {
            return refused(NOT_SO);
        }
        c.began = minute;
        c.isLeft = c.kind == MOOR_KIND;
        minute += c.minutes();
        c.shutBottles();
        for (int i = 0; i < c.bottleCount; i++) {
            partWater(c, i);
        }
        return planChanged(minute);
    }

    public int rest(int n) {
        if (!within(n, 0, 1000)) {
            return refused(WRONG);
        }
        if (minute + n > LAST_MINUTE) {
            return refused(NO_ROOM);
        }
        minute += n;
        return done(minute);
    }

    public int takeUp(int cast) {
        Cast c = castAt(cast);
        if (c == null || c.kind != MOOR_KIND) {
            return refused(WRONG);
        }
        if (!c.isLeft) {
            return refused(NOT_SO);
        }
        c.isLeft = false;
        return done(leftCount());
    }

    public int castTold(int cast, int what) {
        Cast c = castAt(cast);
        if (c == null) {
            return NONE;
        }
        switch (what) {
            case 0: return c.kind;
            case 1: return c.station;
            case 2: return c.depth;
            case 3: return c.minutes();
            case 4: return c.bottleCount;
            case 5: return c.began;
            case 6: return c.readingCount;
            case 7: return c.isLeft ? 1 : 0;
            default: return NONE;
        }
    }

    public int bottleTold(int cast, int bottle, int what) {
        Bottle b = bottleAt(castAt(cast), bottle);
        if (b == null) {
            return NONE;
        }
        switch (what) {
            case 0: return b.depth;
            case 1: return b.fails ? 1 : 0;
            case 2: return b.shutAt;
            case 3: return b.left;
            default: return NONE;
        }
    }

    private int leftCount() {
        int n = 0;
        for (int i = 0; i < castCount; i++) {
            n += casts[i] != null && casts[i].isLeft ? 1 : 0;
        }
        return n;
    }

    // ---- hands and their lines

    public int hand(int spoil) {
        if (!within(spoil, 0, 9)) {
            return refused(WRONG);
        }
        if (handCount >= HAND_ROOM) {
            return refused(NO_ROOM);
        }
        hands[handCount] = new Hand(spoil);
        handCount++;
        return done(handCount - 1);
    }

    public int feed(int n, long bytes) {
        if (!within(n, 1, 8)) {
            return refused(WRONG);
        }
        if (reader.length + n > TAPE_ROOM) {
            return refused(NO_ROOM);
        }
        for (int i = 0; i < n; i++) {
            reader.putByte((int) (bytes >> 8 * i & 255));
        }
        return done(reader.length);
    }

    public int lines(int hand) {
        Hand h = handAt(hand);
        if (h == null) {
            return refused(WRONG);
        }
        if (!reader.readTape()) {
            return refused(NOT_SO);
        }
        h.program = reader.exchange(h.program);
        return done(h.program.size);
    }

    public int fault(int what) {
        switch (what) {
            case 0: return reader.faultKind;
            case 1: return reader.faultPlace;
            default: return NONE;
        }
    }

    private int lineCount() {
        int n = 0;
        for (int i = 0; i < handCount; i++) {
            n += hands[i] == null ? 0 : hands[i].program.size;
        }
        return n;
    }

    // ---- water and samples

    public int use(int sample, boolean lost) {
        Sample s = sampleAt(sample);
        if (s == null) {
            return refused(WRONG);
        }
        if (s.state != KEPT) {
            return refused(NOT_SO);
        }
        s.state = lost ? LOST : USED;
        if (within(s.place, 0, places.length - 1)) {
            places[s.place] = NONE;
        }
        s.place = NONE;
        return done(keptCount());
    }

    public int sample(int sample, int what) {
        Sample s = sampleAt(sample);
        Cast c = s == null ? null : castAt(s.cast);
        Bottle b = s == null ? null : bottleAt(c, s.bottle);
        if (s == null || c == null || b == null) {
            return NONE;
        }
        switch (what) {
            case 0: return s.hand;
            case 1: return s.cast;
            case 2: return s.bottle;
            case 3: return s.parts;
            case 4: return s.place == NONE ? NONE : s.place / BOX_PLACES;
            case 5: return s.place == NONE ? NONE : s.place % BOX_PLACES;
            case 6: return s.state;
            case 7: return c.station;
            case 8: return b.shutAt;
            case 9: return s.line;
            default: return NONE;
        }
    }

    public int box(int box, int place) {
        if (!within(box, 0, BOXES - 1) || !within(place, 0, BOX_PLACES - 1)) {
            return NONE;
        }
        return places[box * BOX_PLACES + place];
    }

    public int water(int hand, int what) {
        if (handAt(hand) == null || !within(what, 0, 1)) {
            return NONE;
        }
        int parts = 0;
        for (int i = 0; i < sampleCount; i++) {
            Sample s = samples[i];
            if (s != null && s.hand == hand && (what == 1 || s.state == KEPT)) {
                parts += s.parts;
            }
        }
        return parts;
    }

    private void partWater(Cast c, int bottle) {
        for (int spoil = 0; spoil <= 9; spoil++) {
            for (int i = 0; i < handCount; i++) {
                if (hands[i] != null && hands[i].spoil == spoil) {
                    takeWater(c, bottle, i);
                }
            }
        }
    }

    private void takeWater(Cast c, int bottle, int hand) {
        Bottle b = bottleAt(c, bottle);
        Hand h = handAt(hand);
        if (b == null || h == null || b.left == 0 || sampleCount >= SAMPLE_ROOM) {
            return;
        }
        bottleValues[0] = c.station;
        bottleValues[1] = b.depth;
        bottleValues[2] = b.left;
        bottleValues[3] = b.shutAt / 60;
        int line = h.program.firstHolding(bottleValues);
        if (line == NONE) {
            return;
        }
        Sample s = new Sample(hand, c.number, bottle);
        s.line = line;
        s.parts = Math.min(h.program.takes[line], b.left);
        b.left -= s.parts;
        s.place = firstFreePlace();
        if (s.place != NONE) {
            places[s.place] = sampleCount;
        }
        samples[sampleCount] = s;
        sampleCount++;
    }

    private int firstFreePlace() {
        for (int i = 0; i < places.length; i++) {
            if (places[i] == NONE) {
                return i;
            }
        }
        return NONE;
    }

    private int keptCount() {
        int n = 0;
        for (int i = 0; i < sampleCount; i++) {
            n += samples[i] != null && samples[i].state == KEPT ? 1 : 0;
        }
        return n;
    }

    // ---- sheets and readings

    public int sheet(int sheet, int sort, int n) {
        Sheet s = sheetAt(sheet);
        if (s == null || !within(sort, MISSING, FLOATS) || sort != MISSING && !within(n, 0, SHEET_SIZE)) {
            return refused(WRONG);
        }
        s.sort = sort;
        s.size = sort == MISSING ? 0 : n;
        Arrays.fill(s.numbers, 0);
        return done(1);
    }

    public int cell(int sheet, int i, int v) {
        Sheet s = sheetAt(sheet);
        if (s == null || !within(v, -1000, 1000)) {
            return refused(WRONG);
        }
        if (s.sort == MISSING) {
            return refused(NOTHING);
        }
        if (!s.has(i)) {
            return refused(OUTSIDE);
        }
        s.numbers[i] = s.sort == BYTES ? (byte) v : v;
        return done(1);
    }

    public int none(int sheet, int i) {
        Sheet s = sheetAt(sheet);
        if (s == null) {
            return refused(WRONG);
        }
        int why = s.refusalAs(FLOATS);
        if (why != 0) {
            return refused(why);
        }
        if (!s.has(i)) {
            return refused(OUTSIDE);
        }
        s.numbers[i] = NO_NUMBER;
        return done(1);
    }

    public int readings(int cast, int sheet) {
        Cast c = castAt(cast);
        Sheet s = sheetAt(sheet);
        if (c == null || s == null) {
            return refused(WRONG);
        }
        int why = s.refusalAs(FLOATS);
        if (why != 0) {
            return refused(why);
        }
        if ((s.size - 1) * READING_STEP > c.depth || s.size > READING_ROOM) {
            return refused(OUTSIDE);
        }
        // The document sets this one behind those of the host, against their numbers.
        if (c.began == NONE) {
            return refused(NOT_SO);
        }
        System.arraycopy(s.numbers, 0, c.readingRow, 0, s.size);
        c.readingCount = s.size;
        return done(s.size);
    }

    public int mean(int cast, int a, int b, int what) {
        Cast c = castAt(cast);
        if (c == null || !within(what, 0, 3)) {
            return NO;
        }
        int numbers = c.readingsBetween(a, b, false);
        if (what >= 2) {
            return what == 2 ? numbers : c.readingsBetween(a, b, true);
        }
        if (numbers == 0) {
            return NO;
        }
        int above = c.eighthsBetween(a, b);
        int below = 8 * numbers;
        int common = Math.max(1, commonDivisor(Math.abs(above), below));
        return what == 0 ? above / common : below / common;
    }

    // ---- counts, acts, the host

    public int count(int what) {
        switch (what) {
            case 0: return stationCount;
            case 1: return castCount;
            case 2: return handCount;
            case 3: return sampleCount;
            case 4: return minute;
            case 5: return shipSpeed;
            case 6: return reader.length;
            case 7: return acts.traceSize;
            case 8: return keptCount();
            case 9: return leftCount();
            case 10: return fitCount();
            case 11: return lineCount();
            default: return NONE;
        }
    }

    public int act(int cast, int act, int x) {
        Cast c = castAt(cast);
        if (c == null || !within(act, 0, Acts.TELL)) {
            return refused(WRONG);
        }
        return done(acts.perform(c, act, x));
    }

    public int trace(int i) {
        return i < 0 || i >= acts.traceSize ? NONE : acts.traceRow[i];
    }

    public int forge(int what, int n, int k) {
        if (!within(n, -100, 100) || !within(k, -100, 100)) {
            return refused(WRONG);
        }
        switch (what) {
            case 0: return forgeKind(Math.floorMod(n, KINDS), castAt(Math.floorMod(k, CAST_ROOM)));
            case 1: return n < 0 ? refused(BELOW_ZERO) : done(n);
            case 2: return forgeShort(n, sheetAt(Math.floorMod(k, SHEET_ROOM)));
            case 3: return forgeCopy(n, sheetAt(Math.floorMod(k, SHEET_ROOM)));
            case 4: return forgeCoreRow(castAt(Math.floorMod(k, CAST_ROOM)));
            case 5: return n == 0 ? refused(BY_ZERO) : done(1000 / n);
            case 6: return Math.floorMod(n, 2) == 0 ? refused(NOTHING) : done(1);
            default: return refused(WRONG);
        }
    }

    public int status() {
        return latestStatus;
    }

    private int forgeKind(int kind, Cast c) {
        if (c == null) {
            return refused(NOTHING);
        }
        return isUnder(c.kind, kind) ? done(c.kind) : refused(OTHER_SORT);
    }

    private int forgeShort(int n, Sheet s) {
        int why = s == null ? NOTHING : s.refusalAs(SHORTS);
        if (s == null || why != 0) {
            return refused(why);
        }
        return s.has(n) ? done(s.numbers[n]) : refused(OUTSIDE);
    }

    private int forgeCopy(int n, Sheet s) {
        int why = s == null ? NOTHING : s.refusalAs(BYTES);
        if (s == null || why != 0) {
            return refused(why);
        }
        // n numbers from 1 on have to end within the sheet, and from n on within a row of 6.
        if (n < 0 || 1 + n > s.size || n + n > 6) {
            return refused(OUTSIDE);
        }
        int sum = 0;
        for (int i = 1; i <= n; i++) {
            sum += s.numbers[i];
        }
        return done(sum);
    }

    private int forgeCoreRow(Cast c) {
        if (c == null) {
            return done(0);
        }
        return isUnder(c.kind, CORE_KIND) ? done(c.kind) : refused(DOES_NOT_FIT);
    }

    // ---- what all calls share

    private int done(int answer) {
        latestStatus = 0;
        return answer;
    }

    private int refused(int why) {
        latestStatus = why;
        return NONE;
    }

    private Station stationAt(int n) {
        return n < 0 || n >= stationCount ? null : stations[n];
    }

    private Cast castAt(int n) {
        return n < 0 || n >= castCount ? null : casts[n];
    }

    private Hand handAt(int n) {
        return n < 0 || n >= handCount ? null : hands[n];
    }

    private Sample sampleAt(int n) {
        return n < 0 || n >= sampleCount ? null : samples[n];
    }

    private Sheet sheetAt(int n) {
        return n < 0 || n >= sheets.length ? null : sheets[n];
    }

    private static Bottle bottleAt(Cast c, int n) {
        return c == null || n < 0 || n >= c.bottleCount ? null : c.bottles[n];
    }

    private static boolean within(int n, int least, int most) {
        return n >= least && n <= most;
    }

    /** By 0 the answer is 0: so an UNDERWAY cast has no minutes. */
    private static int roundedUp(int n, int by) {
        return by <= 0 ? 0 : (n + by - 1) / by;
    }

    private static boolean isUnder(int kind, int upper) {
        int k = kind;
        for (int i = 0; i < KINDS && k != upper && k != NONE; i++) {
            k = kindAbove(k);
        }
        return k == upper;
    }

    private static int kindAbove(int kind) {
        return within(kind, 0, KINDS - 1) ? KIND_ABOVE[kind] : NONE;
    }

    private static int commonDivisor(int a, int b) {
        int x = a;
        int y = b;
        for (int i = 0; i < 64 && y != 0; i++) {
            int rest = x % y;
            x = y;
            y = rest;
        }
        return x;
    }

    private static final class Station {
        final int x;
        final int y;
        final int depth;
        final int worth;
        int from = 0;
        int to = LAST_HOUR;
        int light = 0;
        int aheadBits = 0;

        Station(int x, int y, int depth, int worth) {
            this.x = x;
            this.y = y;
            this.depth = depth;
            this.worth = worth;
        }

        int hoursFrom(int otherX, int otherY, int speed) {
            return roundedUp(Math.abs(x - otherX) + Math.abs(y - otherY), speed);
        }

        boolean lightSuits(int hour) {
            boolean isLight = within(hour % 24, 6, 17);
            return light == 0 || isLight == (light == 1);
        }
    }

    private static final class Bottle {
        final int depth;
        boolean fails = false;
        int shutAt = NONE;
        int left = 0;

        Bottle(int depth) {
            this.depth = depth;
        }
    }

    private static final class Cast {
        final int number;
        final int kind;
        final int station;
        final int depth;
        final Bottle[] bottles;
        int bottleCount = 0;
        int began = NONE;
        boolean isLeft = false;
        final int[] readingRow = new int[READING_ROOM];
        int readingCount = 0;

        Cast(int number, int kind, int station, int depth) {
            this.number = number;
            this.kind = kind;
            this.station = station;
            this.depth = depth;
            this.bottles = new Bottle[kind == BOTTLES_KIND ? BOTTLE_ROOM : 0];
        }

        int minutesDown() {
            return within(kind, 0, KINDS - 1) ? roundedUp(depth, DEPTH_A_MINUTE[kind]) : 0;
        }

        int minutes() {
            int more = within(kind, 0, KINDS - 1) ? MINUTES_MORE[kind] : 0;
            return 2 * minutesDown() + 2 * bottleCount + more;
        }

        /** How deep the next bottle may be at most. */
        int deepestNext() {
            Bottle latest = bottleAt(this, bottleCount - 1);
            return latest == null ? depth : latest.depth;
        }

        void shutBottles() {
            for (int i = 0; i < bottleCount; i++) {
                Bottle b = bottles[i];
                if (b != null && !b.fails) {
                    b.shutAt = began + minutesDown() + roundedUp(depth - b.depth, 60) + 2 * i;
                    b.left = FULL_BOTTLE;
                }
            }
        }

        int readingsBetween(int a, int b, boolean thatAreNone) {
            int n = 0;
            for (int i = 0; i < readingCount; i++) {
                boolean isNone = readingRow[i] == NO_NUMBER;
                n += within(i * READING_STEP, a, b) && isNone == thatAreNone ? 1 : 0;
            }
            return n;
        }

        int eighthsBetween(int a, int b) {
            int sum = 0;
            for (int i = 0; i < readingCount; i++) {
                sum += within(i * READING_STEP, a, b) && readingRow[i] != NO_NUMBER ? readingRow[i] : 0;
            }
            return sum;
        }
    }

    private static final class Hand {
        final int spoil;
        Lines program = new Lines();

        Hand(int spoil) {
            this.spoil = spoil;
        }
    }

    private static final class Sample {
        final int hand;
        final int cast;
        final int bottle;
        int parts = 0;
        int line = NONE;
        /** BOX and PLACE in one number: BOX by BOX. */
        int place = NONE;
        int state = KEPT;

        Sample(int hand, int cast, int bottle) {
            this.hand = hand;
            this.cast = cast;
            this.bottle = bottle;
        }
    }

    private static final class Sheet {
        int sort = MISSING;
        int size = 0;
        final int[] numbers = new int[SHEET_SIZE];

        boolean has(int i) {
            return i >= 0 && i < size;
        }

        /** The STATUS of taking it for one of a sort; 0 if it is one. */
        int refusalAs(int wanted) {
            if (sort == MISSING) {
                return NOTHING;
            }
            return sort == wanted ? 0 : OTHER_SORT;
        }
    }

    /**
     * The LINES of a HAND. What stands behind when is kept as steps, operands ahead of their operator,
     * so that the water is parted without reading the text again.
     */
    private static final class Lines {
        static final int NOT_STEP = -1, AND_STEP = -2, OR_STEP = -3;

        private final int[] steps = new int[TAPE_ROOM];
        private int stepCount = 0;
        private final int[] stepEnds = new int[LINE_ROOM];
        final int[] takes = new int[LINE_ROOM];
        int size = 0;

        void clear() {
            stepCount = 0;
            size = 0;
        }

        static int comparison(int value, boolean equal, int number) {
            return number * 8 + value * 2 + (equal ? 1 : 0);
        }

        void putStep(int step) {
            if (stepCount < steps.length) {
                steps[stepCount] = step;
                stepCount++;
            }
        }

        void endLine(int take) {
            if (size < LINE_ROOM) {
                takes[size] = take;
                stepEnds[size] = stepCount;
                size++;
            }
        }

        int firstHolding(int[] values) {
            int from = 0;
            for (int i = 0; i < size; i++) {
                if (holds(from, stepEnds[i], values)) {
                    return i;
                }
                from = stepEnds[i];
            }
            return NONE;
        }

        /**
         * The operands that wait are bits of one number, the latest the lowest: six NOTs in one another
         * leave at most two waiting each, far fewer than it has. A line without steps holds.
         */
        private boolean holds(int from, int to, int[] values) {
            long waiting = 1;
            for (int i = from; i < to && i < steps.length; i++) {
                int step = steps[i];
                if (step >= 0) {
                    waiting = waiting << 1 | (compares(step, values) ? 1 : 0);
                } else if (step == NOT_STEP) {
                    waiting ^= 1;
                } else {
                    long latest = waiting & 1;
                    long other = waiting >> 1 & 1;
                    waiting = waiting >> 2 << 1 | (step == AND_STEP ? latest & other : latest | other);
                }
            }
            return (waiting & 1) == 1;
        }

        private static boolean compares(int step, int[] values) {
            int value = step >> 1 & 3;
            if (value >= values.length) {
                return false;
            }
            int number = step >> 3;
            return (step & 1) == 1 ? values[value] == number : values[value] < number;
        }
    }

    /** THE TAPE, and the reading of its text into LINES. */
    private static final class LineReader {
        static final int VALUES = 4;

        private static final int END = 0, BAD = 1, NUMBER = 2, TAKE = 3, WHEN = 4, AND = 5, OR = 6, NOT = 7;
        private static final int FIRST_VALUE = 8, LESS = 12, EQUAL = 13, OPEN = 14, CLOSE = 15, SEMICOLON = 16;
        private static final int MOST_DIGITS = 3, MOST_NESTED = 6, LEAST_TAKE = 1, MOST_TAKE = 10;

        private final int[] tape = new int[TAPE_ROOM];
        int length = 0;
        int faultKind = 0;
        int faultPlace = NONE;
        private final int[] kinds = new int[TAPE_ROOM + 1];
        private final int[] spots = new int[TAPE_ROOM + 1];
        private final int[] numbers = new int[TAPE_ROOM + 1];
        private int tokenCount = 0;
        private int at = 0;
        private int firstBadTake = NONE;
        private Lines draft = new Lines();

        void putByte(int b) {
            if (length < TAPE_ROOM) {
                tape[length] = b;
                length++;
            }
        }

        /** Whether the text has no FAULT; THE TAPE is empty then in any case. */
        boolean readTape() {
            scan();
            at = 0;
            firstBadTake = NONE;
            draft.clear();
            boolean stands = true;
            for (int i = 0; i < LINE_ROOM && stands && !isNext(END); i++) {
                stands = readLine();
            }
            stands = stands && isNext(END);
            faultKind = !stands ? 1 : firstBadTake != NONE ? 2 : 0;
            faultPlace = !stands ? nextSpot() : firstBadTake;
            length = 0;
            return faultKind == 0;
        }

        /** Hands out what was read, and takes LINES that are no more used as room for the next text. */
        Lines exchange(Lines old) {
            Lines read = draft;
            draft = old;
            return read;
        }

        private void scan() {
            tokenCount = 0;
            int next = 0;
            for (int i = 0; i < TAPE_ROOM && next < length; i++) {
                next = scanToken(next);
            }
            putToken(END, length, 0);
        }

        /** Puts the token, if it is no blank, and answers the place behind it. */
        private int scanToken(int from) {
            int b = byteAt(from);
            if (isDigit(b)) {
                return scanNumber(from);
            }
            if (isLetter(b)) {
                return scanKey(from);
            }
            if (b != ' ') {
                putToken(signOf(b), from, 0);
            }
            return from + 1;
        }

        private int scanNumber(int from) {
            int end = from;
            int number = 0;
            while (end < length && isDigit(byteAt(end))) {
                // What a number too long comes to is never asked for, and may wrap.
                number = number * 10 + byteAt(end) - '0';
                end++;
            }
            putToken(end - from > MOST_DIGITS ? BAD : NUMBER, from, number);
            return end;
        }

        private int scanKey(int from) {
            int end = from;
            while (end < length && isLetter(byteAt(end))) {
                end++;
            }
            putToken(keyFrom(from, end), from, 0);
            return end;
        }

        private int byteAt(int place) {
            return place < 0 || place >= length ? NONE : tape[place];
        }

        private void putToken(int kind, int spot, int number) {
            if (tokenCount < kinds.length) {
                kinds[tokenCount] = kind;
                spots[tokenCount] = spot;
                numbers[tokenCount] = number;
                tokenCount++;
            }
        }

        private int keyFrom(int from, int end) {
            if (isWord("take", from, end)) return TAKE;
            if (isWord("when", from, end)) return WHEN;
            if (isWord("and", from, end)) return AND;
            if (isWord("or", from, end)) return OR;
            if (isWord("not", from, end)) return NOT;
            if (isWord("station", from, end)) return FIRST_VALUE;
            if (isWord("depth", from, end)) return FIRST_VALUE + 1;
            if (isWord("left", from, end)) return FIRST_VALUE + 2;
            if (isWord("hour", from, end)) return FIRST_VALUE + 3;
            return BAD;
        }

        private boolean isWord(String word, int from, int end) {
            if (word.length() != end - from) {
                return false;
            }
            for (int i = 0; i < word.length(); i++) {
                if (word.charAt(i) != byteAt(from + i)) {
                    return false;
                }
            }
            return true;
        }

        private static int signOf(int b) {
            switch (b) {
                case '<': return LESS;
                case '=': return EQUAL;
                case '(': return OPEN;
                case ')': return CLOSE;
                case ';': return SEMICOLON;
                default: return BAD;
            }
        }

        private static boolean isDigit(int b) {
            return b >= '0' && b <= '9';
        }

        private static boolean isLetter(int b) {
            return b >= 'a' && b <= 'z';
        }

        // Each of the following answers whether it could be read; if not, at is left on the token
        // that can't stand there.

        private boolean readLine() {
            if (!accept(TAKE)) {
                return false;
            }
            int take = nextNumber();
            int spot = nextSpot();
            if (!accept(NUMBER)) {
                return false;
            }
            if (firstBadTake == NONE && !within(take, LEAST_TAKE, MOST_TAKE)) {
                firstBadTake = spot;
            }
            if (accept(WHEN) && !readOr(0) || !accept(SEMICOLON)) {
                return false;
            }
            draft.endLine(take);
            return true;
        }

        private boolean readOr(int nested) {
            if (!readAnd(nested)) {
                return false;
            }
            for (int i = 0; i < TAPE_ROOM && accept(OR); i++) {
                if (!readAnd(nested)) {
                    return false;
                }
                draft.putStep(Lines.OR_STEP);
            }
            return true;
        }

        private boolean readAnd(int nested) {
            if (!readNot(nested)) {
                return false;
            }
            for (int i = 0; i < TAPE_ROOM && accept(AND); i++) {
                if (!readNot(nested)) {
                    return false;
                }
                draft.putStep(Lines.AND_STEP);
            }
            return true;
        }

        private boolean readNot(int nested) {
            if (nested >= MOST_NESTED) {
                return false;
            }
            if (accept(NOT)) {
                if (!readNot(nested + 1)) {
                    return false;
                }
                draft.putStep(Lines.NOT_STEP);
                return true;
            }
            if (accept(OPEN)) {
                return readOr(nested + 1) && accept(CLOSE);
            }
            return readComparison();
        }

        private boolean readComparison() {
            int value = nextKind() - FIRST_VALUE;
            if (!within(value, 0, VALUES - 1) || !accept(FIRST_VALUE + value)) {
                return false;
            }
            boolean equal = isNext(EQUAL);
            if (!accept(EQUAL) && !accept(LESS)) {
                return false;
            }
            int number = nextNumber();
            if (!accept(NUMBER)) {
                return false;
            }
            draft.putStep(Lines.comparison(value, equal, number));
            return true;
        }

        private int nextKind() {
            return at < tokenCount ? kinds[at] : END;
        }

        private int nextSpot() {
            return at < tokenCount ? spots[at] : length;
        }

        private int nextNumber() {
            return at < tokenCount ? numbers[at] : 0;
        }

        private boolean isNext(int kind) {
            return at < tokenCount && kinds[at] == kind;
        }

        /** END is never accepted, so at stays on a token. */
        private boolean accept(int kind) {
            boolean is = at < tokenCount && kinds[at] == kind;
            at += is ? 1 : 0;
            return is;
        }
    }

    /** Finds THE PLAN. */
    private static final class Planner {
        static final int START = STATION_ROOM;
        private static final int HOUR_ROOM = LAST_HOUR + 2;
        private static final int SETS = 1 << STATION_ROOM;
        /** Behind every END there can be. */
        private static final int NEVER = LAST_HOUR + 2;

        boolean stale = true;
        int bestWorth = 0;
        int bestEnd = 0;
        int bestSize = 0;
        final int[] bestRow = new int[STATION_ROOM];
        final int[] bestHours = new int[STATION_ROOM];
        private int size = 0;
        private final int[] row = new int[STATION_ROOM];
        private final int[] hours = new int[STATION_ROOM];
        private final int[] worths = new int[STATION_ROOM];
        private final int[] lasting = new int[STATION_ROOM];
        private final int[] aheadOf = new int[STATION_ROOM];
        private final int[] ways = new int[(STATION_ROOM + 1) * STATION_ROOM];
        private final int[] firstHours = new int[STATION_ROOM * HOUR_ROOM];
        private final int[] leastEnds = new int[SETS * STATION_ROOM];

        void clear(int stations) {
            size = Math.max(0, Math.min(stations, STATION_ROOM));
            Arrays.fill(aheadOf, 0);
            Arrays.fill(leastEnds, 0, (1 << size) * STATION_ROOM, NEVER);
            bestWorth = 0;
            bestEnd = 0;
            bestSize = 0;
        }

        void tell(int n, Station s, int lasts, boolean[] fit) {
            if (n < 0 || n >= size) {
                return;
            }
            worths[n] = s.worth;
            lasting[n] = lasts;
            for (int i = 0; i < size; i++) {
                aheadOf[i] |= (s.aheadBits >> i & 1) << n;
            }
            int base = n * HOUR_ROOM;
            int fitInARow = 0;
            firstHours[base + LAST_HOUR + 1] = NONE;
            for (int h = LAST_HOUR; h >= 0; h--) {
                fitInARow = h < fit.length && fit[h] ? fitInARow + 1 : 0;
                boolean begins = fitInARow >= lasts && h >= s.from && h + lasts - 1 <= s.to && s.lightSuits(h);
                firstHours[base + h] = begins ? h : firstHours[base + h + 1];
            }
        }

        void tellWay(int from, int to, int hoursTaken) {
            if (within(from, 0, START) && to >= 0 && to < size) {
                ways[from * STATION_ROOM + to] = hoursTaken;
            }
        }

        void search() {
            goOn(0, 0, START, 0, 0);
        }

        /**
         * Tries all rows that begin as the present one, those with lesser STATIONS first, so that of
         * like ones the first found stays. A row that has the same STATIONS and the same last one as
         * an earlier row, and ends no sooner, can't lead to anything better than that did.
         */
        private void goOn(int placed, int set, int last, int end, int worth) {
            if (worth > bestWorth || worth == bestWorth && end < bestEnd) {
                keep(placed, end, worth);
            }
            if (placed >= size) {
                return;
            }
            for (int i = 0; i < size; i++) {
                boolean open = (set >> i & 1) == 0 && (aheadOf[i] & set) == 0;
                int hour = open ? firstHour(i, end + ways[last * STATION_ROOM + i]) : NONE;
                if (hour != NONE) {
                    int nextSet = set | 1 << i;
                    int nextEnd = hour + lasting[i];
                    if (nextEnd < leastEnds[nextSet * STATION_ROOM + i]) {
                        leastEnds[nextSet * STATION_ROOM + i] = nextEnd;
                        row[placed] = i;
                        hours[placed] = hour;
                        goOn(placed + 1, nextSet, i, nextEnd, worth + worths[i]);
                    }
                }
            }
        }

        private int firstHour(int station, int coming) {
            return within(coming, 0, LAST_HOUR) ? firstHours[station * HOUR_ROOM + coming] : NONE;
        }

        private void keep(int placed, int end, int worth) {
            bestSize = placed;
            bestEnd = end;
            bestWorth = worth;
            for (int i = 0; i < placed && i < STATION_ROOM; i++) {
                bestRow[i] = row[i];
                bestHours[i] = hours[i];
            }
        }
    }

    /** The bodies of the ACTS, and THE TRACE. */
    private static final class Acts {
        static final int DOWN = 0, UP = 1, SHUT = 2, TELL = 3;

        private static final int ACTS = 4, DEEPEST = 40;
        /** By KIND, four each; 0 where a KIND has none. A body's number has its KIND as tens, from 1 on. */
        private static final int[] BODIES = {
            10, 11, 12, 13,
            0, 0, 20, 21,
            30, 0, 0, 0,
            0, 40, 0, 0,
            0, 51, 50, 0,
            0, 0, 0, 60,
        };

        final int[] traceRow = new int[TRACE_ROOM];
        int traceSize = 0;
        private Cast cast = null;

        int perform(Cast c, int act, int x) {
            cast = c;
            traceSize = 0;
            return call(c.kind, act, x, 0);
        }

        /** Runs the body of a KIND, or of the next above it that has one. */
        private int call(int kind, int act, int x, int depth) {
            int k = kind;
            for (int i = 0; i < KINDS && k != NONE && bodyOf(k, act) == 0; i++) {
                k = kindAbove(k);
            }
            int body = bodyOf(k, act);
            if (body == 0 || cast == null || depth > DEEPEST) {
                return 0;
            }
            if (traceSize < TRACE_ROOM) {
                traceRow[traceSize] = body;
                traceSize++;
            }
            return run(body, x, depth + 1);
        }

        private int run(int body, int x, int depth) {
            int own = cast.kind;
            int upper = kindAbove(body / 10 - 1);
            switch (body) {
                case 10: return x + cast.depth;
                case 11: return call(own, DOWN, x, depth) * 2;
                case 12: return x - cast.number;
                case 13: return call(own, UP, x, depth) ^ call(own, SHUT, x, depth);
                case 20: return call(upper, SHUT, x, depth) + cast.minutes();
                case 21: return call(upper, TELL, x + 1, depth);
                case 30: return call(upper, DOWN, x, depth) * 3;
                case 40: return call(upper, UP, x, depth) - call(own, SHUT, x, depth);
                case 50: return call(upper, SHUT, x, depth) * 2;
                case 51: return call(upper, UP, x, depth) + call(upper, DOWN, x, depth);
                case 60: return call(own, DOWN, x, depth) - call(upper, TELL, x, depth);
                default: return 0;
            }
        }

        private static int bodyOf(int kind, int act) {
            return within(kind, 0, KINDS - 1) && within(act, 0, TELL) ? BODIES[kind * ACTS + act] : 0;
        }
    }
}
