import java.util.Arrays;

/** A field of tanks that see showers; the promises it keeps are numbered in the project's document. */
public final class TankField {
    public static final int UNKNOWN = -1, OUTSIDE = -2, STATE = -3, FULL = -4, NONE = -9;
    public static final long LOST = Long.MIN_VALUE;

    private static final int FINE = 0;
    private static final int NO_FAULT = 0, FAULT_NULL = 1, FAULT_CAST = 2, FAULT_INDEX = 3, FAULT_SIZE = 4;
    private static final int PLAIN = 0, STEEP = 1, OVER = 2, BRIM = 3;
    private static final int NO_HIGH = -1, TOP_OF_TRACE = 255, STEEPNESS = 16;
    private static final int MOST_TANKS = 30, MOST_HITS = 240, MOST_TOLD = 20;
    private static final int FURTHEST = 100, LAST_TIME = 20000, MOST_FAST = 500;
    private static final int WINDOW = 0, REACH = 1, LEAST = 2, MARK = 3;
    private static final int RULES = 4;
    private static final int[] RULE_LOWEST = {1, 1, 1, 0};
    private static final int[] RULE_HIGHEST = {300, 300, 12, 4080};
    private static final int SHEETS = 4, MOST_CELLS = 40, CELLS_OF_HIT = 4;
    private static final int NOTHING = -1, BYTES = 0, SHORTS = 1, INTS = 2;
    private static final int NO_TANK = -1;

    private final Tanks tanks = new Tanks();
    private final Hits hits = new Hits();
    private final Clocks clocks = new Clocks();
    private final Downs downs = new Downs();
    private final Sheets sheets = new Sheets();
    private final Grouping grouping = new Grouping();
    private final Front plane = new Front();
    private final int[] rules = {100, 60, 3, 10};
    private Building latest = new Building();
    private Building ahead = new Building();
    private int buildings;
    private int traced;
    private int latestFault;

    public TankField() {
    }

    // ---- 1 tanks, hits

    public int tank(int x, int y) {
        if (!isWithin(x, -FURTHEST, FURTHEST) || !isWithin(y, -FURTHEST, FURTHEST)) {
            return OUTSIDE;
        }
        if (tanks.count >= MOST_TANKS) {
            return FULL;
        }
        return tanks.add(x, y);
    }

    public int hit(int tank, int time, int low, int high) {
        int refusal = refusalOfHit(tank, time, low, high);
        if (refusal != FINE) {
            return refusal;
        }
        if (hits.count >= MOST_HITS) {
            return FULL;
        }
        return hits.add(tank, time, low, high);
    }

    public int load(int sheet, int lane, int i, int n) {
        latestFault = NO_FAULT;
        if (!sheets.has(sheet)) {
            return UNKNOWN;
        }
        if (!isLane(lane)) {
            return OUTSIDE;
        }
        int fault = faultOfLoad(sheet, lane, i, n);
        if (fault != NO_FAULT) {
            return answerFault(fault);
        }
        int refusal = refusalOfLoad(sheet, i, n);
        if (refusal != FINE) {
            return refusal;
        }
        for (int j = 0; j < n; j++) {
            addHitOfSheet(sheet, i + CELLS_OF_HIT * j);
        }
        return hits.count;
    }

    public int clock(int tank, int from, int by) {
        if (!tanks.has(tank)) {
            return UNKNOWN;
        }
        if (!isWithin(from, 0, LAST_TIME) || !isWithin(by, -MOST_FAST, MOST_FAST)) {
            return OUTSIDE;
        }
        if (clocks.count >= MOST_TOLD) {
            return FULL;
        }
        return clocks.add(tank, from, by);
    }

    public int down(int tank, int from, int to) {
        if (!tanks.has(tank)) {
            return UNKNOWN;
        }
        if (!isSpan(from, to)) {
            return OUTSIDE;
        }
        if (downs.count >= MOST_TOLD) {
            return FULL;
        }
        return downs.add(tank, from, to);
    }

    public int about(int tank, int what) {
        if (!tanks.has(tank)) {
            return UNKNOWN;
        }
        switch (what) {
            case 0: return tanks.x[tank];
            case 1: return tanks.y[tank];
            case 2: return countHits(tank);
            case 3: return countHitsWhenDown(tank);
            case 4: return countMembers(tank);
            default: return OUTSIDE;
        }
    }

    public int struck(int hit, int what) {
        if (!hits.has(hit)) {
            return UNKNOWN;
        }
        switch (what) {
            case 0: return hits.tank[hit];
            case 1: return hits.time[hit];
            case 2: return timePutRight(hit);
            case 3: return hits.kindOf(hit);
            case 4: return hits.amountOf(hit);
            case 5: return isLookedAt(hit) ? 1 : 0;
            case 6: return latest.eventOf[hit];
            default: return OUTSIDE;
        }
    }

    public long exposure(int from, int to) {
        if (!isSpan(from, to)) {
            return LOST;
        }
        long sum = 0;
        for (int t = 0; t < tanks.count; t++) {
            sum += downs.countTimesUp(t, from, to);
        }
        return sum;
    }

    private static boolean isWithin(int v, int lowest, int highest) {
        return v >= lowest && v <= highest;
    }

    private static boolean isSpan(int from, int to) {
        return isWithin(from, 0, LAST_TIME) && isWithin(to, from, LAST_TIME + 1);
    }

    private int refusalOfHit(int tank, int time, int low, int high) {
        if (!tanks.has(tank)) {
            return UNKNOWN;
        }
        if (!isWithin(time, 0, LAST_TIME) || !isWithin(low, 0, TOP_OF_TRACE)) {
            return OUTSIDE;
        }
        int highest = low < TOP_OF_TRACE ? NO_HIGH : TOP_OF_TRACE;
        return isWithin(high, NO_HIGH, highest) ? FINE : OUTSIDE;
    }

    private int faultOfLoad(int sheet, int lane, int i, int n) {
        int fault = sheets.faultOfTaking(sheet, lane);
        if (fault != NO_FAULT) {
            return fault;
        }
        if (n < 0) {
            return FAULT_SIZE;
        }
        // As longs, for an int would wrap and let a wild i or n through.
        long end = (long) i + (long) CELLS_OF_HIT * n;
        return i < 0 || end > sheets.size[sheet] ? FAULT_INDEX : NO_FAULT;
    }

    // Every HIT is looked at ahead of the first that is added, so that a refusal leaves none of them behind.
    private int refusalOfLoad(int sheet, int i, int n) {
        for (int j = 0; j < n; j++) {
            int cell = i + CELLS_OF_HIT * j;
            int refusal = refusalOfHit(sheets.cellAt(sheet, cell), sheets.cellAt(sheet, cell + 1),
                    sheets.cellAt(sheet, cell + 2), sheets.cellAt(sheet, cell + 3));
            if (refusal != FINE) {
                return refusal;
            }
        }
        return hits.count + n > MOST_HITS ? FULL : FINE;
    }

    private void addHitOfSheet(int sheet, int cell) {
        hits.add(sheets.cellAt(sheet, cell), sheets.cellAt(sheet, cell + 1),
                sheets.cellAt(sheet, cell + 2), sheets.cellAt(sheet, cell + 3));
    }

    private int timePutRight(int hit) {
        return hits.time[hit] - clocks.fastAt(hits.tank[hit], hits.time[hit]);
    }

    private boolean isLookedAt(int hit) {
        return !downs.isDownAt(hits.tank[hit], hits.time[hit]);
    }

    private int countHits(int tank) {
        int found = 0;
        for (int h = 0; h < hits.count; h++) {
            if (hits.tank[h] == tank) {
                found++;
            }
        }
        return found;
    }

    private int countHitsWhenDown(int tank) {
        int found = 0;
        for (int h = 0; h < hits.count; h++) {
            if (hits.tank[h] == tank && !isLookedAt(h)) {
                found++;
            }
        }
        return found;
    }

    // No EVENT has two MEMBERS of one TANK, so its MEMBERS are as many as their EVENTS.
    private int countMembers(int tank) {
        int found = 0;
        for (int h = 0; h < hits.count; h++) {
            if (hits.tank[h] == tank && latest.eventOf[h] != NONE) {
                found++;
            }
        }
        return found;
    }

    // ---- 2 events

    public int rule(int which, int v) {
        if (!isWithin(which, 0, RULES - 1)) {
            return UNKNOWN;
        }
        if (!isWithin(v, RULE_LOWEST[which], RULE_HIGHEST[which])) {
            return OUTSIDE;
        }
        int was = rules[which];
        rules[which] = v;
        return was;
    }

    public int build() {
        Building oldest = ahead;
        ahead = latest;
        latest = oldest;
        latest.clear();
        buildings++;
        return findEvents(NO_TANK, true);
    }

    public int others() {
        if (buildings < 2) {
            return STATE;
        }
        int found = 0;
        for (int e = 0; e < latest.count; e++) {
            if (!ahead.hasLike(latest, e)) {
                found++;
            }
        }
        return found;
    }

    public int isOther(int event) {
        if (!latest.has(event)) {
            return UNKNOWN;
        }
        if (buildings < 2) {
            return STATE;
        }
        return ahead.hasLike(latest, event) ? 0 : 1;
    }

    public int without(int tank) {
        if (!tanks.has(tank)) {
            return UNKNOWN;
        }
        return findEvents(tank, false);
    }

    public int event(int e, int what) {
        if (!latest.has(e)) {
            return UNKNOWN;
        }
        switch (what) {
            case 0: return latest.sizeOf(e);
            case 1: return latest.leastTimeOf(e);
            case 2: return latest.greatestTimeOf(e);
            case 3: return latest.groupSize[e];
            case 4: return isSure(e) ? 1 : 0;
            default: return OUTSIDE;
        }
    }

    public int member(int e, int i) {
        if (!latest.hasMember(e, i)) {
            return UNKNOWN;
        }
        return latest.memberHit[latest.start[e] + i];
    }

    private int findEvents(int leftOut, boolean kept) {
        collectHits(leftOut);
        int found = 0;
        for (int seed = 0; seed < grouping.count; seed++) {
            if (grouping.isTaken[seed]) {
                continue;
            }
            int size = grouping.gather(seed, tanks, rules[WINDOW], rules[REACH]);
            if (grouping.findFirsts(size) < rules[LEAST]) {
                continue;
            }
            found++;
            if (kept) {
                grouping.keep(latest, size);
            }
        }
        return found;
    }

    private void collectHits(int leftOut) {
        grouping.clear();
        for (int h = 0; h < hits.count; h++) {
            int tank = hits.tank[h];
            if (tank != leftOut && hits.amountOf(h) >= rules[MARK] && isLookedAt(h)) {
                grouping.insert(h, tank, timePutRight(h));
            }
        }
    }

    private boolean isSure(int e) {
        for (int p = latest.start[e]; p < latest.start[e + 1]; p++) {
            int kind = hits.kindOf(latest.memberHit[p]);
            if (kind == OVER || kind == BRIM) {
                return false;
            }
        }
        return true;
    }

    // ---- 3 fronts

    public long front(int e, int what) {
        if (!latest.has(e) || !isWithin(what, 0, 3)) {
            return LOST;
        }
        fitFront(e);
        if (what == 0) {
            return plane.d;
        }
        if (plane.d == 0) {
            return LOST;
        }
        return what == 1 ? plane.c : what == 2 ? plane.u : plane.v;
    }

    public long error(int e, int i) {
        if (!latest.hasMember(e, i)) {
            return LOST;
        }
        fitFront(e);
        return plane.d == 0 ? LOST : errorOfMember(e, i);
    }

    public int worst(int e) {
        if (!latest.has(e)) {
            return UNKNOWN;
        }
        fitFront(e);
        if (plane.d == 0) {
            return NONE;
        }
        int found = 0;
        long furthest = 0;
        for (int i = 0; i < latest.sizeOf(e); i++) {
            long apart = Math.abs(errorOfMember(e, i));
            if (apart > furthest) {
                furthest = apart;
                found = i;
            }
        }
        return found;
    }

    public long core(int e, int what) {
        if (!latest.has(e) || !isWithin(what, 0, 2)) {
            return LOST;
        }
        long sum = 0;
        for (int p = latest.start[e]; p < latest.start[e + 1]; p++) {
            int hit = latest.memberHit[p];
            int tank = hits.tank[hit];
            long factor = what == 0 ? tanks.x[tank] : what == 1 ? tanks.y[tank] : 1;
            sum += hits.amountOf(hit) * factor;
        }
        return sum;
    }

    private void fitFront(int e) {
        plane.clear(latest.leastTimeOf(e));
        for (int p = latest.start[e]; p < latest.start[e + 1]; p++) {
            int tank = hits.tank[latest.memberHit[p]];
            plane.add(tanks.x[tank], tanks.y[tank], latest.memberTime[p]);
        }
        plane.solve();
    }

    private long errorOfMember(int e, int i) {
        int p = latest.start[e] + i;
        int tank = hits.tank[latest.memberHit[p]];
        return plane.errorAt(tanks.x[tank], tanks.y[tank], latest.memberTime[p]);
    }

    // ---- 4 sheets, parts

    public int sheet(int k, int lane, int n) {
        latestFault = NO_FAULT;
        if (!sheets.has(k)) {
            return UNKNOWN;
        }
        if (!isLane(lane) || n > MOST_CELLS) {
            return OUTSIDE;
        }
        if (n < 0) {
            return answerFault(FAULT_SIZE);
        }
        sheets.renew(k, lane, n);
        return 1;
    }

    public int drop(int k) {
        if (!sheets.has(k)) {
            return UNKNOWN;
        }
        if (sheets.lane[k] == NOTHING) {
            return 0;
        }
        sheets.lane[k] = NOTHING;
        return 1;
    }

    public int put(int k, int i, int v) {
        latestFault = NO_FAULT;
        if (!sheets.has(k)) {
            return UNKNOWN;
        }
        if (sheets.lane[k] == NOTHING) {
            return answerFault(FAULT_NULL);
        }
        if (!sheets.hasCell(k, i)) {
            return answerFault(FAULT_INDEX);
        }
        sheets.setCell(k, i, v);
        return 1;
    }

    public long at(int k, int i, int lane) {
        latestFault = NO_FAULT;
        if (!sheets.has(k) || !isLane(lane)) {
            return LOST;
        }
        latestFault = sheets.faultOfTaking(k, lane);
        if (latestFault != NO_FAULT) {
            return LOST;
        }
        if (!sheets.hasCell(k, i)) {
            latestFault = FAULT_INDEX;
            return LOST;
        }
        return sheets.cellAt(k, i);
    }

    public int tell(int hit) {
        if (!hits.has(hit)) {
            return UNKNOWN;
        }
        switch (hits.kindOf(hit)) {
            case STEEP: return tellAsSteep(hit);
            case BRIM: return tellAsBrim(hit);
            default: return tellAsPlain(hit);
        }
    }

    public int weigh(int hit) {
        if (!hits.has(hit)) {
            return UNKNOWN;
        }
        int kind = hits.kindOf(hit);
        return kind == OVER || kind == BRIM ? weighAsOver() : weighAsLent(hit, kind);
    }

    public int as(int hit, int kind) {
        latestFault = NO_FAULT;
        if (!hits.has(hit)) {
            return UNKNOWN;
        }
        if (!isWithin(kind, PLAIN, BRIM)) {
            return OUTSIDE;
        }
        int own = hits.kindOf(hit);
        boolean fits = kind == PLAIN || kind == own || kind == OVER && own == BRIM;
        return fits ? 1 : answerFault(FAULT_CAST);
    }

    public int trace() {
        return traced;
    }

    public int fault() {
        return latestFault;
    }

    public int told(int what) {
        switch (what) {
            case 0: return tanks.count;
            case 1: return hits.count;
            case 2: return latest.count;
            case 3: return clocks.count;
            case 4: return downs.count;
            case 5: return buildings;
            case 6: return rules[WINDOW];
            case 7: return rules[REACH];
            case 8: return rules[LEAST];
            case 9: return rules[MARK];
            default: return OUTSIDE;
        }
    }

    private static boolean isLane(int lane) {
        return isWithin(lane, BYTES, INTS);
    }

    private int answerFault(int fault) {
        latestFault = fault;
        return -10 - fault;
    }

    private void leaveInTrace(int body) {
        traced = 31 * traced + body;
    }

    private int tellAsPlain(int hit) {
        leaveInTrace(1);
        return hits.low[hit];
    }

    private int tellAsSteep(int hit) {
        leaveInTrace(2);
        return STEEPNESS * hits.high[hit] + tellAsPlain(hit);
    }

    // OVER has no TELLING of its own, so what BRIM takes from it is PLAIN's.
    private int tellAsBrim(int hit) {
        leaveInTrace(3);
        return tellAsPlain(hit) - 9;
    }

    private int weighAsLent(int hit, int kind) {
        leaveInTrace(4);
        return hits.amountOf(hit) + kind;
    }

    private int weighAsOver() {
        leaveInTrace(5);
        return 0;
    }

    /** The TANKS, numbered as they come. */
    private static final class Tanks {
        private final int[] x = new int[MOST_TANKS];
        private final int[] y = new int[MOST_TANKS];
        private int count;

        private boolean has(int tank) {
            return isWithin(tank, 0, count - 1);
        }

        private int add(int newX, int newY) {
            x[count] = newX;
            y[count] = newY;
            return count++;
        }

        private int squareApart(int a, int b) {
            int byX = x[a] - x[b];
            int byY = y[a] - y[b];
            return byX * byX + byY * byY;
        }
    }

    /** The HITS, numbered as they come, just as they came. */
    private static final class Hits {
        private final int[] tank = new int[MOST_HITS];
        private final int[] time = new int[MOST_HITS];
        private final int[] low = new int[MOST_HITS];
        private final int[] high = new int[MOST_HITS];
        private int count;

        private boolean has(int hit) {
            return isWithin(hit, 0, count - 1);
        }

        private int add(int ofTank, int atTime, int withLow, int withHigh) {
            tank[count] = ofTank;
            time[count] = atTime;
            low[count] = withLow;
            high[count] = withHigh;
            return count++;
        }

        private int kindOf(int hit) {
            if (low[hit] < TOP_OF_TRACE) {
                return PLAIN;
            }
            if (high[hit] == NO_HIGH) {
                return OVER;
            }
            return high[hit] < TOP_OF_TRACE ? STEEP : BRIM;
        }

        private int amountOf(int hit) {
            return high[hit] == NO_HIGH ? low[hit] : STEEPNESS * high[hit];
        }
    }

    /** What was told of TANKS from TIMES on, in the order of telling. */
    private abstract static class Ledger {
        final int[] tank = new int[MOST_TOLD];
        final int[] from = new int[MOST_TOLD];
        final int[] value = new int[MOST_TOLD];
        int count;

        final int add(int ofTank, int fromTime, int newValue) {
            tank[count] = ofTank;
            from[count] = fromTime;
            value[count] = newValue;
            count++;
            return count;
        }
    }

    /** The CLOCKS: a value is by how many a clock is FAST. */
    private static final class Clocks extends Ledger {
        // From the latest telling back, for of several that fit the latest one told goes.
        private int fastAt(int ofTank, int time) {
            for (int i = count - 1; i >= 0; i--) {
                if (tank[i] == ofTank && from[i] <= time) {
                    return value[i];
                }
            }
            return 0;
        }
    }

    /** The DOWNS: a value is the TIME ahead of which a DOWN ends. */
    private static final class Downs extends Ledger {
        private boolean isDownAt(int ofTank, int time) {
            return endOfDown(ofTank, time) > time;
        }

        // DOWNS may overlap, so a TIME is counted by walking from gap to gap and not by taking spans away.
        private int countTimesUp(int ofTank, int first, int end) {
            int up = 0;
            int time = first;
            // A step goes to where a DOWN ends or begins, or to the end: never to one of these twice.
            for (int step = 0; step <= 2 * MOST_TOLD && time < end; step++) {
                int next = endOfDown(ofTank, time);
                if (next == time) {
                    next = nextDown(ofTank, time, end);
                    up += next - time;
                }
                time = next;
            }
            return up;
        }

        private int endOfDown(int ofTank, int time) {
            int end = time;
            for (int i = 0; i < count; i++) {
                if (tank[i] == ofTank && from[i] <= time && value[i] > end) {
                    end = value[i];
                }
            }
            return end;
        }

        private int nextDown(int ofTank, int time, int end) {
            int next = end;
            for (int i = 0; i < count; i++) {
                if (tank[i] == ofTank && from[i] > time && from[i] < next) {
                    next = from[i];
                }
            }
            return next;
        }
    }

    /** Finds GROUPS among HITS; its rows are used again, so that a BUILDING makes no object. */
    private static final class Grouping {
        // By TIME PUT RIGHT, then by number: the first place of a GROUP is what orders EVENTS,
        // and the first place of a TANK in a GROUP is its MEMBER.
        private final int[] hitAt = new int[MOST_HITS];
        private final int[] tankAt = new int[MOST_HITS];
        private final int[] timeAt = new int[MOST_HITS];
        private final boolean[] isTaken = new boolean[MOST_HITS];
        private int count;
        private final int[] group = new int[MOST_HITS];
        private int grouped;
        private final int[] firstOfTank = new int[MOST_TANKS];

        private void clear() {
            count = 0;
        }

        // HITS come by rising numbers: of like TIMES a later one goes behind.
        private void insert(int hit, int tank, int time) {
            int place = count;
            while (place > 0 && timeAt[place - 1] > time) {
                hitAt[place] = hitAt[place - 1];
                tankAt[place] = tankAt[place - 1];
                timeAt[place] = timeAt[place - 1];
                place--;
            }
            hitAt[place] = hit;
            tankAt[place] = tank;
            timeAt[place] = time;
            isTaken[count] = false;
            count++;
        }

        private int gather(int seed, Tanks tanks, int window, int reach) {
            grouped = 0;
            take(seed);
            for (int g = 0; g < grouped && g < count; g++) {
                takeNear(group[g], tanks, window, reach * reach);
            }
            return grouped;
        }

        private void takeNear(int place, Tanks tanks, int window, int square) {
            int time = timeAt[place];
            for (int p = place - 1; p >= 0 && time - timeAt[p] <= window; p--) {
                takeIfClose(place, p, tanks, square);
            }
            for (int p = place + 1; p < count && timeAt[p] - time <= window; p++) {
                takeIfClose(place, p, tanks, square);
            }
        }

        private void takeIfClose(int place, int p, Tanks tanks, int square) {
            if (!isTaken[p] && tankAt[p] != tankAt[place]
                    && tanks.squareApart(tankAt[p], tankAt[place]) <= square) {
                take(p);
            }
        }

        private void take(int place) {
            isTaken[place] = true;
            group[grouped] = place;
            grouped++;
        }

        private int findFirsts(int size) {
            Arrays.fill(firstOfTank, NONE);
            int found = 0;
            for (int g = 0; g < size; g++) {
                int tank = tankAt[group[g]];
                if (firstOfTank[tank] == NONE) {
                    found++;
                    firstOfTank[tank] = group[g];
                } else if (group[g] < firstOfTank[tank]) {
                    firstOfTank[tank] = group[g];
                }
            }
            return found;
        }

        private void keep(Building building, int size) {
            building.open(size);
            for (int t = 0; t < MOST_TANKS; t++) {
                int place = firstOfTank[t];
                if (place != NONE) {
                    building.addMember(hitAt[place], timeAt[place]);
                }
            }
        }
    }

    /** The EVENTS of a BUILDING, with the TIMES PUT RIGHT as they were then. */
    private static final class Building {
        private int count;
        // MEMBERS of EVENT e stand from start[e] up to ahead of start[e + 1].
        private final int[] start = new int[MOST_HITS + 1];
        private final int[] groupSize = new int[MOST_HITS];
        private final int[] memberHit = new int[MOST_HITS];
        private final int[] memberTime = new int[MOST_HITS];
        private final int[] eventOf = new int[MOST_HITS];

        private Building() {
            Arrays.fill(eventOf, NONE);
        }

        private void clear() {
            count = 0;
            Arrays.fill(eventOf, NONE);
        }

        private void open(int size) {
            groupSize[count] = size;
            start[count + 1] = start[count];
            count++;
        }

        private void addMember(int hit, int time) {
            int p = start[count];
            memberHit[p] = hit;
            memberTime[p] = time;
            eventOf[hit] = count - 1;
            start[count] = p + 1;
        }

        private boolean has(int e) {
            return isWithin(e, 0, count - 1);
        }

        private boolean hasMember(int e, int i) {
            return has(e) && isWithin(i, 0, sizeOf(e) - 1);
        }

        private int sizeOf(int e) {
            return start[e + 1] - start[e];
        }

        private int leastTimeOf(int e) {
            int least = memberTime[start[e]];
            for (int p = start[e]; p < start[e + 1]; p++) {
                least = Math.min(least, memberTime[p]);
            }
            return least;
        }

        private int greatestTimeOf(int e) {
            int greatest = memberTime[start[e]];
            for (int p = start[e]; p < start[e + 1]; p++) {
                greatest = Math.max(greatest, memberTime[p]);
            }
            return greatest;
        }

        // A HIT is a MEMBER of one EVENT at most, so only the EVENT of the first MEMBER can be alike.
        private boolean hasLike(Building other, int e) {
            int theirs = other.start[e];
            int own = eventOf[other.memberHit[theirs]];
            if (own == NONE || sizeOf(own) != other.sizeOf(e)) {
                return false;
            }
            for (int i = 0; i < sizeOf(own); i++) {
                if (memberHit[start[own] + i] != other.memberHit[theirs + i]) {
                    return false;
                }
            }
            return true;
        }
    }

    /** The plane front that fits best, with all that is told of it times its determinant D. */
    private static final class Front {
        private int leastTime;
        private long n, sumX, sumY, sumXX, sumXY, sumYY;
        private long sumT, sumTX, sumTY;
        private long d, c, u, v;

        private void clear(int newLeastTime) {
            leastTime = newLeastTime;
            n = 0;
            sumX = 0;
            sumY = 0;
            sumXX = 0;
            sumXY = 0;
            sumYY = 0;
            sumT = 0;
            sumTX = 0;
            sumTY = 0;
        }

        private void add(long x, long y, int time) {
            long t = time - leastTime;
            n++;
            sumX += x;
            sumY += y;
            sumXX += x * x;
            sumXY += x * y;
            sumYY += y * y;
            sumT += t;
            sumTX += t * x;
            sumTY += t * y;
        }

        // The rows are alike across the diagonal, so six cofactors serve all four determinants.
        private void solve() {
            long nn = sumXX * sumYY - sumXY * sumXY;
            long nx = sumXY * sumY - sumX * sumYY;
            long ny = sumX * sumXY - sumXX * sumY;
            long xx = n * sumYY - sumY * sumY;
            long xy = sumX * sumY - n * sumXY;
            long yy = n * sumXX - sumX * sumX;
            d = n * nn + sumX * nx + sumY * ny;
            c = sumT * nn + sumTX * nx + sumTY * ny;
            u = sumT * nx + sumTX * xx + sumTY * xy;
            v = sumT * ny + sumTX * xy + sumTY * yy;
        }

        private long errorAt(long x, long y, int time) {
            return (time - leastTime) * d - (c + u * x + v * y);
        }
    }

    /** The SHEETS; each has its cells from the beginning, so that a new row makes no object. */
    private static final class Sheets {
        private final int[] lane = {NOTHING, NOTHING, NOTHING, NOTHING};
        private final int[] size = new int[SHEETS];
        private final int[] cells = new int[SHEETS * MOST_CELLS];

        private boolean has(int k) {
            return isWithin(k, 0, SHEETS - 1);
        }

        private boolean hasCell(int k, int i) {
            return isWithin(i, 0, size[k] - 1);
        }

        private void renew(int k, int newLane, int newSize) {
            lane[k] = newLane;
            size[k] = newSize;
            Arrays.fill(cells, k * MOST_CELLS, (k + 1) * MOST_CELLS, 0);
        }

        private int cellAt(int k, int i) {
            return cells[k * MOST_CELLS + i];
        }

        private void setCell(int k, int i, int v) {
            cells[k * MOST_CELLS + i] = cutToLane(lane[k], v);
        }

        private static int cutToLane(int ofLane, int v) {
            switch (ofLane) {
                case BYTES: return (byte) v;
                case SHORTS: return (short) v;
                default: return v;
            }
        }

        private int faultOfTaking(int k, int wanted) {
            if (lane[k] == NOTHING) {
                return FAULT_NULL;
            }
            return lane[k] == wanted ? NO_FAULT : FAULT_CAST;
        }
    }
}
