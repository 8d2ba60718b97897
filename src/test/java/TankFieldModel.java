import java.math.BigInteger;
import java.util.ArrayList;
import java.util.Comparator;
import java.util.HashSet;
import java.util.List;
import java.util.Set;
import java.util.TreeMap;

/** Made-up runs of calls: every answer is held against a second program, written as plainly as the document. */
public final class TankFieldModel {
    private static final long LOST = Long.MIN_VALUE;
    private static final int RUNS = 600, CALLS = 512;
    private static final String[] NAMES = {"tank", "hit", "load", "clock", "down", "about", "struck", "exposure",
        "rule", "build", "others", "isOther", "without", "event", "member", "front", "error", "worst", "core",
        "sheet", "drop", "put", "at", "tell", "weigh", "as", "trace", "fault", "told"};
    private static final int[] COUNTS = {2, 4, 4, 3, 3, 2, 2, 2, 2, 0, 0, 1, 1, 2, 2, 2, 2, 1, 2, 3, 1, 3, 3, 1, 1,
        2, 0, 0, 1};
    private static final int[] ODDS = {3, 30, 6, 2, 2, 6, 10, 4, 5, 10, 4, 4, 5, 10, 6, 8, 6, 5, 6, 2, 1, 14, 5, 4,
        4, 4, 2, 6, 3};

    private static int wrong;

    public static void main(String[] args) {
        long calls = 0;
        int[] firsts = new int[NAMES.length];
        for (int run = 0; run < RUNS && wrong < 20; run++) {
            calls += oneRun(run, firsts);
        }
        for (int i = 0; i < NAMES.length; i++) {
            if (firsts[i] == 0) {
                wrong++;
                System.out.println(NAMES[i] + " never answered anything but a refusal");
            }
        }
        System.out.println(calls + " calls, " + wrong + " wrong");
        if (wrong != 0) {
            System.exit(1);
        }
    }

    private static int oneRun(int run, int[] firsts) {
        Maker maker = new Maker(run);
        TankField field = new TankField();
        Model model = new Model();
        List<String> told = new ArrayList<>();
        for (int i = 0; i < CALLS; i++) {
            int call = maker.call(model);
            int[] a = maker.arguments(call, model);
            long got = ask(field, call, a);
            long want = model.ask(call, a);
            told.add(text(call, a));
            if (got >= 0) {
                firsts[call]++;
            }
            if (got != want) {
                wrong++;
                System.out.println("run " + run + ", call " + i + ": " + text(call, a) + " answered " + got
                        + ", due is " + want);
                System.out.println("  behind " + String.join(" ", told));
                return i;
            }
        }
        return CALLS;
    }

    private static String text(int call, int[] a) {
        StringBuilder b = new StringBuilder(NAMES[call]).append('(');
        for (int i = 0; i < COUNTS[call]; i++) {
            b.append(i == 0 ? "" : ",").append(a[i]);
        }
        return b.append(')').toString();
    }

    private static long ask(TankField f, int call, int[] a) {
        switch (NAMES[call]) {
            case "tank": return f.tank(a[0], a[1]);
            case "hit": return f.hit(a[0], a[1], a[2], a[3]);
            case "load": return f.load(a[0], a[1], a[2], a[3]);
            case "clock": return f.clock(a[0], a[1], a[2]);
            case "down": return f.down(a[0], a[1], a[2]);
            case "about": return f.about(a[0], a[1]);
            case "struck": return f.struck(a[0], a[1]);
            case "exposure": return f.exposure(a[0], a[1]);
            case "rule": return f.rule(a[0], a[1]);
            case "build": return f.build();
            case "others": return f.others();
            case "isOther": return f.isOther(a[0]);
            case "without": return f.without(a[0]);
            case "event": return f.event(a[0], a[1]);
            case "member": return f.member(a[0], a[1]);
            case "front": return f.front(a[0], a[1]);
            case "error": return f.error(a[0], a[1]);
            case "worst": return f.worst(a[0]);
            case "core": return f.core(a[0], a[1]);
            case "sheet": return f.sheet(a[0], a[1], a[2]);
            case "drop": return f.drop(a[0]);
            case "put": return f.put(a[0], a[1], a[2]);
            case "at": return f.at(a[0], a[1], a[2]);
            case "tell": return f.tell(a[0]);
            case "weigh": return f.weigh(a[0]);
            case "as": return f.as(a[0], a[1]);
            case "trace": return f.trace();
            case "fault": return f.fault();
            default: return f.told(a[0]);
        }
    }

    /** Makes up calls, the same ones for the same run. */
    private static final class Maker {
        private long seed;
        private final int spread;
        private final int times;
        private final int wild;
        private final int mood;

        Maker(int run) {
            seed = run * 7919L + 17;
            int[] spreads = {5, 40, 100};
            int[] allTimes = {60, 700, 5000, 20000};
            int[] wilds = {0, 12, 25, 60};
            spread = spreads[run % 3];
            times = allTimes[run / 3 % 4];
            wild = wilds[run / 12 % 4];
            mood = run / 48 % 3;
        }

        int below(int n) {
            seed = seed * 6364136223846793005L + 1442695040888963407L;
            return (int) ((seed >>> 33) % n);
        }

        int from(int low, int high) {
            return low + below(high - low + 1);
        }

        int call(Model m) {
            if (m.tanks.size() < 3 + 9 * mood && below(3) > 0) {
                return 0;
            }
            if (mood == 2 && m.hits.size() < 100 && below(3) == 0) {
                return 1;
            }
            // Loading is the only way to many HITS, so one mood does little else once its SHEET stands.
            if (mood == 1 && m.rows[0] != null && m.hits.size() < 236 && below(4) == 0) {
                return 2;
            }
            int sum = 0;
            for (int odd : ODDS) {
                sum += odd;
            }
            int left = below(sum);
            for (int i = 0; i < ODDS.length; i++) {
                left -= ODDS[i];
                if (left < 0) {
                    return i;
                }
            }
            return 0;
        }

        int[] arguments(int call, Model m) {
            int[] a = fitting(NAMES[call], m);
            int[] edges = {-2, -1, 0, 3, 4, 5, 7, 10, 12, 13, 20, 21, 30, 40, 41, 100, 101, 240, 254, 255, 256, 300, 301,
                500, 501, 4080, 4081, 20000, 20001, 20002, -100, -101, -500, -501, Integer.MAX_VALUE,
                Integer.MIN_VALUE, 1 << 30};
            for (int i = 0; i < COUNTS[call]; i++) {
                if (wild > 0 && below(wild) == 0) {
                    a[i] = edges[below(edges.length)];
                }
            }
            return a;
        }

        private int time() {
            int t = below(times);
            return below(40) == 0 ? 20000 - t % 9 : t;
        }

        private int someHit(Model m) {
            return below(m.hits.size() + 1) - (below(20) == 0 ? 1 : 0);
        }

        private int someTank(Model m) {
            return below(m.tanks.size() + (below(15) == 0 ? 1 : 0) + (m.tanks.isEmpty() ? 1 : 0));
        }

        private int someEvent(Model m) {
            return below(m.latest.size() + 1) - (below(20) == 0 ? 1 : 0);
        }

        private int[] fitting(String name, Model m) {
            switch (name) {
                case "tank": return new int[] {from(-spread, spread), from(-spread, spread)};
                case "hit": return someNewHit(m);
                case "load": return someLoad(m);
                case "clock": return new int[] {someTank(m), time(), from(-times / 9 - 1, times / 9 + 1) % 501};
                case "down": return someDown(m);
                case "about": return new int[] {someTank(m), from(-1, 5)};
                case "struck": return new int[] {someHit(m), from(-1, 7)};
                case "exposure": return someSpan();
                case "rule": return someRule();
                case "isOther": return new int[] {someEvent(m)};
                case "without": return new int[] {someTank(m)};
                case "event": return new int[] {someEvent(m), from(-1, 5)};
                case "member":
                case "error": return new int[] {someEvent(m), from(-1, 7)};
                case "front": return new int[] {someEvent(m), from(-1, 4)};
                case "worst": return new int[] {someEvent(m)};
                case "core": return new int[] {someEvent(m), from(-1, 3)};
                case "sheet": return new int[] {below(4), below(3), below(6) == 0 ? from(-1, 41) : 40};
                case "put": return somePut(m);
                case "at": return someAt(m);
                case "drop": return new int[] {below(5)};
                case "as": return new int[] {someHit(m), from(-1, 4)};
                case "told": return new int[] {from(-1, 10)};
                default: return new int[] {someHit(m), 0, 0, 0};
            }
        }

        private int[] someNewHit(Model m) {
            int kind = below(4);
            int low = kind == 0 || below(2) == 0 ? below(255) : 255;
            int high = low < 255 || kind == 1 ? -1 : kind == 2 ? 255 : below(255);
            return new int[] {someTank(m), time(), low, high};
        }

        private int[] someLoad(Model m) {
            int k = below(4);
            Row row = m.rows[k];
            int lane = row == null || below(8) == 0 ? below(3) : row.lane;
            int n = from(below(9) == 0 ? -1 : 0, below(9) == 0 ? 11 : 4);
            return new int[] {k, lane, below(5) == 0 ? from(-1, 41) : 4 * below(7), n};
        }

        private int[] someSpan() {
            int from = time();
            int to = below(9) == 0 ? 20001 : below(15) == 0 ? from - 1 : Math.min(20001, from + below(times));
            return new int[] {from, to};
        }

        private int[] someDown(Model m) {
            int[] span = someSpan();
            return new int[] {someTank(m), span[0], below(2) == 0 ? Math.min(20001, span[0] + below(times / 9 + 1))
                : span[1]};
        }

        private int[] someRule() {
            int which = below(4);
            int[] most = {300, 300, 5, 300};
            int v = below(30) == 0 ? from(-1, 4081) : from(0, below(2) == 0 ? most[which] : most[which] / 4 + 1);
            return new int[] {which, v};
        }

        private int[] somePut(Model m) {
            int k = below(4);
            int i = from(0, 40);
            int[] parts = {someTank(m), time(), below(256), -1};
            int v = below(20) == 0 ? from(-70000, 70000) : parts[i % 4];
            return new int[] {k, i, v};
        }

        private int[] someAt(Model m) {
            int k = below(4);
            return new int[] {k, from(-1, 40), m.rows[k] == null || below(6) == 0 ? from(-1, 3) : m.rows[k].lane};
        }
    }

    private static final class Row {
        final int lane;
        final int[] cells;

        Row(int lane, int n) {
            this.lane = lane;
            cells = new int[n];
        }
    }

    private static final class Event {
        final List<Integer> members = new ArrayList<>();
        final List<Integer> times = new ArrayList<>();
        int groupSize;

        int least() {
            return times.stream().min(Comparator.naturalOrder()).get();
        }

        int leastNumber() {
            int least = Integer.MAX_VALUE;
            for (int i = 0; i < members.size(); i++) {
                if (times.get(i) == least()) {
                    least = Math.min(least, members.get(i));
                }
            }
            return least;
        }
    }

    /** The document's words, with no thought of speed or room. */
    private static final class Model {
        final List<int[]> tanks = new ArrayList<>();
        final List<int[]> hits = new ArrayList<>();
        final List<int[]> clocks = new ArrayList<>();
        final List<int[]> downs = new ArrayList<>();
        final int[] rules = {100, 60, 3, 10};
        final Row[] rows = new Row[4];
        List<Event> latest = new ArrayList<>();
        Set<Set<Integer>> ahead = new HashSet<>();
        int buildings;
        int trace;
        int fault;

        long ask(int call, int[] a) {
            switch (NAMES[call]) {
                case "tank": return tank(a[0], a[1]);
                case "hit": return hit(a);
                case "load": return load(a[0], a[1], a[2], a[3]);
                case "clock": return clock(a);
                case "down": return down(a);
                case "about": return about(a[0], a[1]);
                case "struck": return struck(a[0], a[1]);
                case "exposure": return exposure(a[0], a[1]);
                case "rule": return rule(a[0], a[1]);
                case "build": return build();
                case "others": return others();
                case "isOther": return isOther(a[0]);
                case "without": return a[0] < 0 || a[0] >= tanks.size() ? -1 : events(a[0]).size();
                case "event": return event(a[0], a[1]);
                case "member": return !isPlace(a[0], a[1]) ? -1 : latest.get(a[0]).members.get(a[1]);
                case "front": return front(a[0], a[1]);
                case "error": return error(a[0], a[1]);
                case "worst": return worst(a[0]);
                case "core": return core(a[0], a[1]);
                case "sheet": return sheet(a[0], a[1], a[2]);
                case "drop": return drop(a[0]);
                case "put": return put(a[0], a[1], a[2]);
                case "at": return at(a[0], a[1], a[2]);
                case "tell": return !isHit(a[0]) ? -1 : tell(a[0]);
                case "weigh": return !isHit(a[0]) ? -1 : weigh(a[0]);
                case "as": return as(a[0], a[1]);
                case "trace": return trace;
                case "fault": return fault;
                default: return told(a[0]);
            }
        }

        private boolean isHit(int h) {
            return h >= 0 && h < hits.size();
        }

        private boolean isTank(int t) {
            return t >= 0 && t < tanks.size();
        }

        private boolean isEvent(int e) {
            return e >= 0 && e < latest.size();
        }

        private boolean isPlace(int e, int i) {
            return isEvent(e) && i >= 0 && i < latest.get(e).members.size();
        }

        private int tank(int x, int y) {
            if (x < -100 || x > 100 || y < -100 || y > 100) {
                return -2;
            }
            if (tanks.size() == 30) {
                return -4;
            }
            tanks.add(new int[] {x, y});
            return tanks.size() - 1;
        }

        private int refusal(int[] h) {
            if (!isTank(h[0])) {
                return -1;
            }
            boolean fine = h[1] >= 0 && h[1] <= 20000 && h[2] >= 0 && h[2] <= 255 && h[3] >= -1 && h[3] <= 255
                && (h[3] == -1 || h[2] == 255);
            return fine ? 0 : -2;
        }

        private int hit(int[] h) {
            if (refusal(h) != 0) {
                return refusal(h);
            }
            if (hits.size() == 240) {
                return -4;
            }
            hits.add(h.clone());
            return hits.size() - 1;
        }

        private int faulted(int f) {
            fault = f;
            return -10 - f;
        }

        private int load(int k, int lane, int i, int n) {
            fault = 0;
            if (k < 0 || k > 3) {
                return -1;
            }
            if (lane < 0 || lane > 2) {
                return -2;
            }
            if (rows[k] != null && rows[k].lane != lane) {
                return faulted(2);
            }
            if (rows[k] == null) {
                return faulted(1);
            }
            if (n < 0) {
                return faulted(4);
            }
            if (i < 0 || i > rows[k].cells.length || n > (rows[k].cells.length - i) / 4) {
                return faulted(3);
            }
            List<int[]> more = new ArrayList<>();
            for (int j = 0; j < n; j++) {
                int[] h = java.util.Arrays.copyOfRange(rows[k].cells, i + 4 * j, i + 4 * j + 4);
                if (refusal(h) != 0) {
                    return refusal(h);
                }
                more.add(h);
            }
            if (hits.size() + more.size() > 240) {
                return -4;
            }
            hits.addAll(more);
            return hits.size();
        }

        private int clock(int[] a) {
            if (!isTank(a[0])) {
                return -1;
            }
            if (a[1] < 0 || a[1] > 20000 || a[2] < -500 || a[2] > 500) {
                return -2;
            }
            if (clocks.size() == 20) {
                return -4;
            }
            clocks.add(a.clone());
            return clocks.size();
        }

        private boolean isSpan(int from, int to) {
            return from >= 0 && from <= 20000 && to >= from && to <= 20001;
        }

        private int down(int[] a) {
            if (!isTank(a[0])) {
                return -1;
            }
            if (!isSpan(a[1], a[2])) {
                return -2;
            }
            if (downs.size() == 20) {
                return -4;
            }
            downs.add(a.clone());
            return downs.size();
        }

        private boolean isDown(int tank, int time) {
            for (int[] d : downs) {
                if (d[0] == tank && d[1] <= time && time < d[2]) {
                    return true;
                }
            }
            return false;
        }

        private int right(int h) {
            int by = 0;
            for (int[] c : clocks) {
                if (c[0] == hits.get(h)[0] && c[1] <= hits.get(h)[1]) {
                    by = c[2];
                }
            }
            return hits.get(h)[1] - by;
        }

        private int kind(int h) {
            int[] v = hits.get(h);
            return v[2] < 255 ? 0 : v[3] == -1 ? 2 : v[3] == 255 ? 3 : 1;
        }

        private int amount(int h) {
            switch (kind(h)) {
                case 0: return hits.get(h)[2];
                case 1: return 16 * hits.get(h)[3];
                case 2: return 255;
                default: return 4080;
            }
        }

        private int about(int t, int what) {
            if (!isTank(t)) {
                return -1;
            }
            int all = 0;
            int down = 0;
            for (int[] h : hits) {
                all += h[0] == t ? 1 : 0;
                down += h[0] == t && isDown(t, h[1]) ? 1 : 0;
            }
            int in = 0;
            for (Event e : latest) {
                for (int m : e.members) {
                    in += hits.get(m)[0] == t ? 1 : 0;
                }
            }
            int[] answers = {tanks.get(t)[0], tanks.get(t)[1], all, down, in};
            return what < 0 || what > 4 ? -2 : answers[what];
        }

        private int struck(int h, int what) {
            if (!isHit(h)) {
                return -1;
            }
            int in = -9;
            for (int e = 0; e < latest.size(); e++) {
                if (latest.get(e).members.contains(h)) {
                    in = e;
                }
            }
            int[] v = hits.get(h);
            int[] answers = {v[0], v[1], right(h), kind(h), amount(h), isDown(v[0], v[1]) ? 0 : 1, in};
            return what < 0 || what > 6 ? -2 : answers[what];
        }

        private long exposure(int from, int to) {
            if (!isSpan(from, to)) {
                return LOST;
            }
            long sum = 0;
            for (int t = 0; t < tanks.size(); t++) {
                for (int time = from; time < to; time++) {
                    sum += isDown(t, time) ? 0 : 1;
                }
            }
            return sum;
        }

        private int rule(int which, int v) {
            if (which < 0 || which > 3) {
                return -1;
            }
            int[] most = {300, 300, 12, 4080};
            if (v < (which == 3 ? 0 : 1) || v > most[which]) {
                return -2;
            }
            int was = rules[which];
            rules[which] = v;
            return was;
        }

        private boolean near(int g, int h) {
            int[] a = tanks.get(hits.get(g)[0]);
            int[] b = tanks.get(hits.get(h)[0]);
            int square = (a[0] - b[0]) * (a[0] - b[0]) + (a[1] - b[1]) * (a[1] - b[1]);
            return hits.get(g)[0] != hits.get(h)[0] && Math.abs(right(g) - right(h)) <= rules[0]
                && square <= rules[1] * rules[1];
        }

        private List<Event> events(int leftOut) {
            List<Integer> looked = new ArrayList<>();
            for (int h = 0; h < hits.size(); h++) {
                int[] v = hits.get(h);
                if (v[0] != leftOut && !isDown(v[0], v[1]) && amount(h) >= rules[3]) {
                    looked.add(h);
                }
            }
            // Two groups become one for every near pair between them.
            TreeMap<Integer, List<Integer>> groups = new TreeMap<>();
            int[] groupOf = new int[hits.size()];
            for (int h : looked) {
                groupOf[h] = h;
                groups.put(h, new ArrayList<>(List.of(h)));
            }
            for (int g : looked) {
                for (int h : looked) {
                    if (groupOf[g] != groupOf[h] && near(g, h)) {
                        int gone = groupOf[h];
                        for (int moved : groups.remove(gone)) {
                            groupOf[moved] = groupOf[g];
                            groups.get(groupOf[g]).add(moved);
                        }
                    }
                }
            }
            List<Event> found = new ArrayList<>();
            for (List<Integer> group : groups.values()) {
                Event e = event(group);
                if (e.members.size() >= rules[2]) {
                    found.add(e);
                }
            }
            found.sort(Comparator.comparingInt(Event::least).thenComparingInt(Event::leastNumber));
            return found;
        }

        private Event event(List<Integer> group) {
            TreeMap<Integer, Integer> first = new TreeMap<>();
            for (int h : group) {
                int t = hits.get(h)[0];
                Integer other = first.get(t);
                if (other == null || right(h) < right(other) || right(h) == right(other) && h < other) {
                    first.put(t, h);
                }
            }
            Event e = new Event();
            e.groupSize = group.size();
            for (int h : first.values()) {
                e.members.add(h);
                e.times.add(right(h));
            }
            return e;
        }

        private int build() {
            ahead = new HashSet<>();
            for (Event e : latest) {
                ahead.add(new HashSet<>(e.members));
            }
            latest = events(-1);
            buildings++;
            return latest.size();
        }

        private boolean isNew(Event e) {
            return !ahead.contains(new HashSet<>(e.members));
        }

        private int others() {
            return buildings < 2 ? -3 : (int) latest.stream().filter(this::isNew).count();
        }

        private int isOther(int e) {
            return !isEvent(e) ? -1 : buildings < 2 ? -3 : isNew(latest.get(e)) ? 1 : 0;
        }

        private int event(int e, int what) {
            if (!isEvent(e)) {
                return -1;
            }
            Event v = latest.get(e);
            boolean sure = v.members.stream().noneMatch(m -> kind(m) >= 2);
            int greatest = v.times.stream().max(Comparator.naturalOrder()).get();
            int[] answers = {v.members.size(), v.least(), greatest, v.groupSize, sure ? 1 : 0};
            return what < 0 || what > 4 ? -2 : answers[what];
        }

        private static BigInteger det(BigInteger[][] m) {
            BigInteger sum = BigInteger.ZERO;
            for (int i = 0; i < 3; i++) {
                BigInteger down = m[0][i].multiply(m[1][(i + 1) % 3]).multiply(m[2][(i + 2) % 3]);
                BigInteger up = m[2][i].multiply(m[1][(i + 1) % 3]).multiply(m[0][(i + 2) % 3]);
                sum = sum.add(down).subtract(up);
            }
            return sum;
        }

        private BigInteger[] factors(Event e, int i) {
            int[] at = tanks.get(hits.get(e.members.get(i))[0]);
            return new BigInteger[] {BigInteger.ONE, BigInteger.valueOf(at[0]), BigInteger.valueOf(at[1]),
                BigInteger.valueOf(e.times.get(i) - e.least())};
        }

        /** D, C, U, V. */
        private BigInteger[] fit(Event e) {
            BigInteger[][] sums = new BigInteger[3][4];
            for (int r = 0; r < 3; r++) {
                for (int c = 0; c < 4; c++) {
                    sums[r][c] = BigInteger.ZERO;
                    for (int i = 0; i < e.members.size(); i++) {
                        sums[r][c] = sums[r][c].add(factors(e, i)[r].multiply(factors(e, i)[c]));
                    }
                }
            }
            BigInteger[] answers = new BigInteger[4];
            for (int which = 0; which < 4; which++) {
                BigInteger[][] m = new BigInteger[3][3];
                for (int r = 0; r < 3; r++) {
                    for (int c = 0; c < 3; c++) {
                        m[r][c] = sums[r][c == which - 1 ? 3 : c];
                    }
                }
                answers[which] = det(m);
            }
            return answers;
        }

        private long front(int e, int what) {
            if (!isEvent(e) || what < 0 || what > 3) {
                return LOST;
            }
            BigInteger[] f = fit(latest.get(e));
            return what > 0 && f[0].signum() == 0 ? LOST : f[what].longValueExact();
        }

        private long error(int e, int i) {
            if (!isPlace(e, i)) {
                return LOST;
            }
            BigInteger[] f = fit(latest.get(e));
            BigInteger[] at = factors(latest.get(e), i);
            BigInteger plane = f[1].add(f[2].multiply(at[1])).add(f[3].multiply(at[2]));
            return f[0].signum() == 0 ? LOST : at[3].multiply(f[0]).subtract(plane).longValueExact();
        }

        private int worst(int e) {
            if (!isEvent(e)) {
                return -1;
            }
            int found = -9;
            for (int i = latest.get(e).members.size() - 1; i >= 0; i--) {
                if (error(e, i) != LOST && (found < 0 || Math.abs(error(e, i)) >= Math.abs(error(e, found)))) {
                    found = i;
                }
            }
            return found;
        }

        private long core(int e, int what) {
            if (!isEvent(e) || what < 0 || what > 2) {
                return LOST;
            }
            long[] sums = new long[3];
            for (int m : latest.get(e).members) {
                int[] at = tanks.get(hits.get(m)[0]);
                sums[0] += (long) amount(m) * at[0];
                sums[1] += (long) amount(m) * at[1];
                sums[2] += amount(m);
            }
            return sums[what];
        }

        private int sheet(int k, int lane, int n) {
            fault = 0;
            if (k < 0 || k > 3) {
                return -1;
            }
            if (lane < 0 || lane > 2 || n > 40) {
                return -2;
            }
            if (n < 0) {
                return faulted(4);
            }
            rows[k] = new Row(lane, n);
            return 1;
        }

        private int drop(int k) {
            if (k < 0 || k > 3) {
                return -1;
            }
            int had = rows[k] == null ? 0 : 1;
            rows[k] = null;
            return had;
        }

        private int put(int k, int i, int v) {
            fault = 0;
            if (k < 0 || k > 3) {
                return -1;
            }
            if (rows[k] == null) {
                return faulted(1);
            }
            if (i < 0 || i >= rows[k].cells.length) {
                return faulted(3);
            }
            int[] cut = {(byte) v, (short) v, v};
            rows[k].cells[i] = cut[rows[k].lane];
            return 1;
        }

        private long at(int k, int i, int lane) {
            fault = 0;
            if (k < 0 || k > 3 || lane < 0 || lane > 2) {
                return LOST;
            }
            if (rows[k] == null) {
                fault = 1;
            } else if (rows[k].lane != lane) {
                fault = 2;
            } else if (i < 0 || i >= rows[k].cells.length) {
                fault = 3;
            }
            return fault != 0 ? LOST : rows[k].cells[i];
        }

        private void leave(int... numbers) {
            for (int number : numbers) {
                trace = (int) (31L * trace + number);
            }
        }

        private int tell(int h) {
            int low = hits.get(h)[2];
            switch (kind(h)) {
                case 1:
                    leave(2, 1);
                    return 16 * hits.get(h)[3] + low;
                case 3:
                    leave(3, 1);
                    return low - 9;
                default:
                    leave(1);
                    return low;
            }
        }

        private int weigh(int h) {
            leave(kind(h) < 2 ? 4 : 5);
            return kind(h) < 2 ? amount(h) + kind(h) : 0;
        }

        private int as(int h, int kind) {
            fault = 0;
            if (!isHit(h)) {
                return -1;
            }
            if (kind < 0 || kind > 3) {
                return -2;
            }
            String[] fit = {"0", "01", "02", "023"};
            return fit[kind(h)].indexOf('0' + kind) >= 0 ? 1 : faulted(2);
        }

        private int told(int what) {
            int[] answers = {tanks.size(), hits.size(), latest.size(), clocks.size(), downs.size(), buildings,
                rules[0], rules[1], rules[2], rules[3]};
            return what < 0 || what > 9 ? -2 : answers[what];
        }
    }
}
