/** For each promise: ordinary inputs, the edges that the document names, and wrong inputs. */
public final class TankFieldPromises {
    private static final int UNKNOWN = -1, OUTSIDE = -2, STATE = -3, FULL = -4, NONE = -9;
    private static final int NULL = -11, CAST = -12, INDEX = -13, SIZE = -14;
    private static final long LOST = Long.MIN_VALUE;
    private static final int LOWEST = Integer.MIN_VALUE, HIGHEST = Integer.MAX_VALUE;

    private static int promise;
    private static int checks;
    private static int wrong;

    public static void main(String[] args) {
        promise = 1;
        newObject();
        constants();
        promise = 2;
        tank();
        promise = 3;
        hit();
        hitFull();
        promise = 4;
        load();
        loadFaults();
        loadRefusals();
        loadFull();
        promise = 5;
        clock();
        promise = 6;
        down();
        promise = 7;
        about();
        promise = 8;
        struck();
        promise = 9;
        exposure();
        promise = 10;
        rule();
        promise = 11;
        buildNear();
        buildGroups();
        buildOrder();
        buildLeavesEvents();
        buildMost();
        promise = 12;
        others();
        promise = 13;
        isOther();
        promise = 14;
        without();
        promise = 15;
        event();
        promise = 16;
        member();
        promise = 17;
        front();
        frontOfFarTimes();
        promise = 18;
        error();
        promise = 19;
        worst();
        promise = 20;
        core();
        promise = 21;
        sheet();
        promise = 22;
        drop();
        promise = 23;
        put();
        promise = 24;
        at();
        promise = 25;
        tell();
        promise = 26;
        weigh();
        promise = 27;
        as();
        promise = 28;
        trace();
        promise = 29;
        fault();
        promise = 30;
        told();
        System.out.println(checks + " checks, " + wrong + " wrong");
        if (wrong != 0) {
            System.exit(1);
        }
    }

    private static void due(String call, long got, long want) {
        checks++;
        if (got != want) {
            wrong++;
            System.out.println("promise " + promise + ": " + call + " answered " + got + ", due is " + want);
        }
    }

    private static TankField withTanks(int... places) {
        TankField f = new TankField();
        for (int i = 0; i < places.length; i += 2) {
            due("tank", f.tank(places[i], places[i + 1]), i / 2);
        }
        return f;
    }

    private static void hits(TankField f, int... tankTimeAmounts) {
        for (int i = 0; i < tankTimeAmounts.length; i += 3) {
            int number = f.told(1);
            due("hit", f.hit(tankTimeAmounts[i], tankTimeAmounts[i + 1], tankTimeAmounts[i + 2], -1), number);
        }
    }

    /** Tanks at the corners of a square of 10, and a fifth one that is far off. */
    private static TankField square() {
        return withTanks(0, 0, 10, 0, 0, 10, 10, 10, 100, 100);
    }

    private static void fill(TankField f, int sheet, int lane, int... cells) {
        due("sheet", f.sheet(sheet, lane, cells.length), 1);
        for (int i = 0; i < cells.length; i++) {
            due("put", f.put(sheet, i, cells[i]), 1);
        }
    }

    private static void fillWithHits(TankField f, int howMany) {
        for (int i = f.told(1); i < howMany; i++) {
            due("hit " + i, f.hit(0, i, 20, -1), i);
        }
    }

    private static void newObject() {
        TankField f = new TankField();
        for (int what = 0; what <= 5; what++) {
            due("told " + what, f.told(what), 0);
        }
        due("window", f.told(6), 100);
        due("reach", f.told(7), 60);
        due("least", f.told(8), 3);
        due("mark", f.told(9), 10);
        due("trace", f.trace(), 0);
        due("fault", f.fault(), 0);
        due("about", f.about(0, 0), UNKNOWN);
        due("struck", f.struck(0, 0), UNKNOWN);
        due("event", f.event(0, 0), UNKNOWN);
        due("exposure", f.exposure(0, 20001), 0);
        for (int k = 0; k < 4; k++) {
            due("drop", f.drop(k), 0);
        }
        TankField other = withTanks(1, 1);
        due("objects share nothing", f.told(0), 0);
        due("objects share nothing", other.told(0), 1);
    }

    private static void constants() {
        due("UNKNOWN", TankField.UNKNOWN, -1);
        due("OUTSIDE", TankField.OUTSIDE, -2);
        due("STATE", TankField.STATE, -3);
        due("FULL", TankField.FULL, -4);
        due("NONE", TankField.NONE, -9);
        due("LOST", TankField.LOST, Long.MIN_VALUE);
    }

    private static void tank() {
        TankField f = new TankField();
        int[] out = {101, -101, LOWEST, HIGHEST};
        for (int v : out) {
            due("x " + v, f.tank(v, 0), OUTSIDE);
            due("y " + v, f.tank(0, v), OUTSIDE);
        }
        due("none came", f.told(0), 0);
        due("edge", f.tank(-100, 100), 0);
        due("edge", f.tank(100, -100), 1);
        due("same place", f.tank(100, -100), 2);
        for (int i = 3; i < 30; i++) {
            due("tank " + i, f.tank(i, -i), i);
        }
        due("OUTSIDE goes ahead of FULL", f.tank(101, 0), OUTSIDE);
        due("FULL", f.tank(0, 0), FULL);
        due("30 ever", f.told(0), 30);
        due("x stays", f.about(29, 0), 29);
        due("y stays", f.about(29, 1), -29);
    }

    private static void hit() {
        TankField f = withTanks(0, 0);
        due("tank", f.hit(1, 0, 0, -1), UNKNOWN);
        due("tank", f.hit(-1, 0, 0, -1), UNKNOWN);
        due("UNKNOWN goes ahead", f.hit(1, -1, 256, 256), UNKNOWN);
        int[] times = {-1, 20001, LOWEST, HIGHEST};
        for (int v : times) {
            due("time " + v, f.hit(0, v, 0, -1), OUTSIDE);
        }
        int[] traces = {-2, 256, LOWEST, HIGHEST};
        for (int v : traces) {
            due("low " + v, f.hit(0, 0, v, -1), OUTSIDE);
            due("high " + v, f.hit(0, 0, 255, v), OUTSIDE);
        }
        due("no low", f.hit(0, 0, -1, -1), OUTSIDE);
        due("high with low below 255", f.hit(0, 0, 254, 0), OUTSIDE);
        due("high with low below 255", f.hit(0, 0, 254, 255), OUTSIDE);
        due("high below 0 with low below 255", f.hit(0, 0, 254, -2), OUTSIDE);
        due("none came", f.told(1), 0);
        due("plain", f.hit(0, 0, 0, -1), 0);
        due("plain", f.hit(0, 20000, 254, -1), 1);
        due("steep", f.hit(0, 5, 255, 0), 2);
        due("steep", f.hit(0, 5, 255, 254), 3);
        due("over", f.hit(0, 5, 255, -1), 4);
        due("brim", f.hit(0, 5, 255, 255), 5);
    }

    private static void hitFull() {
        TankField f = withTanks(0, 0);
        fillWithHits(f, 240);
        due("UNKNOWN goes ahead of FULL", f.hit(1, 0, 0, -1), UNKNOWN);
        due("OUTSIDE goes ahead of FULL", f.hit(0, 0, 10, 5), OUTSIDE);
        due("FULL", f.hit(0, 0, 10, -1), FULL);
        due("240 ever", f.told(1), 240);
        due("last", f.struck(239, 1), 239);
    }

    private static void load() {
        TankField f = withTanks(0, 0, 10, 0);
        fill(f, 1, 1, 99, 1, 700, 255, 3, 0, 20000, 255, 255, 0, 0, 7, -1);
        due("load none", f.load(1, 1, 0, 0), 0);
        due("load", f.load(1, 1, 1, 3), 3);
        due("tank", f.struck(0, 0), 1);
        due("time", f.struck(0, 1), 700);
        due("kind", f.struck(0, 3), 1);
        due("amount", f.struck(0, 4), 48);
        due("time", f.struck(1, 1), 20000);
        due("kind", f.struck(1, 3), 3);
        due("kind", f.struck(2, 3), 0);
        due("amount", f.struck(2, 4), 7);
        due("load again", f.load(1, 1, 5, 2), 5);
        due("order", f.struck(3, 1), 20000);
        fill(f, 0, 0, 1, 127, 100, 255);
        due("a byte is cut, 255 is -1", f.load(0, 0, 0, 1), 6);
        due("kind", f.struck(5, 3), 0);
        due("amount", f.struck(5, 4), 100);
        fill(f, 3, 2, 0, 0, 255, -1);
        due("ints", f.load(3, 2, 0, 1), 7);
        due("kind", f.struck(6, 3), 2);
    }

    private static void loadFaults() {
        TankField f = withTanks(0, 0);
        fill(f, 0, 1, 0, 1, 2, -1, 0, 3, 4, -1);
        due("sheet", f.load(4, 9, -1, -1), UNKNOWN);
        due("sheet", f.load(-1, 0, 0, 0), UNKNOWN);
        due("lane", f.load(0, 3, -1, -1), OUTSIDE);
        due("lane", f.load(0, -1, 0, 0), OUTSIDE);
        due("lane goes ahead of nothing", f.load(2, 3, 0, 0), OUTSIDE);
        due("CAST goes ahead of SIZE, INDEX", f.load(0, 0, -1, -1), CAST);
        due("CAST", f.load(0, 2, 0, 1), CAST);
        due("CAST, though none is taken", f.load(0, 2, 0, 0), CAST);
        due("NULL goes ahead of SIZE, INDEX", f.load(2, 0, -1, -1), NULL);
        due("SIZE goes ahead of INDEX", f.load(0, 1, -1, -1), SIZE);
        due("SIZE", f.load(0, 1, 0, LOWEST), SIZE);
        due("INDEX", f.load(0, 1, -1, 0), INDEX);
        due("INDEX", f.load(0, 1, 9, 0), INDEX);
        due("INDEX", f.load(0, 1, 1, 2), INDEX);
        due("INDEX", f.load(0, 1, 5, 1), INDEX);
        due("INDEX does not wrap", f.load(0, 1, 0, 1 << 30), INDEX);
        due("INDEX does not wrap", f.load(0, 1, HIGHEST, HIGHEST), INDEX);
        due("INDEX does not wrap", f.load(0, 1, HIGHEST, 1), INDEX);
        due("INDEX", f.load(0, 1, LOWEST, 2), INDEX);
        due("none came", f.told(1), 0);
        due("end of the row", f.load(0, 1, 8, 0), 0);
        due("whole row", f.load(0, 1, 0, 2), 2);
        due("row of none", f.sheet(1, 0, 0), 1);
        due("row of none", f.load(1, 0, 0, 0), 2);
        due("row of none", f.load(1, 0, 0, 1), INDEX);
    }

    private static void loadRefusals() {
        TankField f = withTanks(0, 0);
        fill(f, 0, 2, 0, 1, 2, -1, 0, 20001, 2, -1, 1, 1, 2, -1);
        due("OUTSIDE of the second ahead of UNKNOWN of the third", f.load(0, 2, 0, 3), OUTSIDE);
        due("fault", f.fault(), 0);
        due("UNKNOWN", f.load(0, 2, 8, 1), UNKNOWN);
        due("INDEX goes ahead of a HIT", f.load(0, 2, 8, 2), INDEX);
        due("none came", f.told(1), 0);
        fill(f, 0, 2, 1, -1, 2, -1);
        due("UNKNOWN ahead of OUTSIDE of one", f.load(0, 2, 0, 1), UNKNOWN);
        fill(f, 0, 2, 0, 1, 2, 3);
        due("high", f.load(0, 2, 0, 1), OUTSIDE);
        fill(f, 0, 0, 0, 1, 255, -1);
        due("low is cut to -1", f.load(0, 0, 0, 1), OUTSIDE);
    }

    private static void loadFull() {
        TankField f = withTanks(0, 0);
        fillWithHits(f, 238);
        fill(f, 0, 1, 0, 1, 2, -1, 0, 2, 3, -1, 0, 3, 4, -1, 1, 4, 5, -1);
        due("UNKNOWN goes ahead of FULL", f.load(0, 1, 0, 4), UNKNOWN);
        due("FULL", f.load(0, 1, 0, 3), FULL);
        due("fault", f.fault(), 0);
        due("none came", f.told(1), 238);
        due("up to the last", f.load(0, 1, 0, 2), 240);
        due("FULL", f.load(0, 1, 0, 1), FULL);
        due("none is never too many", f.load(0, 1, 0, 0), 240);
    }

    private static void clock() {
        TankField f = withTanks(0, 0, 10, 0);
        hits(f, 0, 99, 20, 0, 100, 20, 0, 500, 20, 1, 500, 20, 0, 0, 20);
        due("tank", f.clock(2, -1, 501), UNKNOWN);
        due("tank", f.clock(-1, 0, 0), UNKNOWN);
        due("from", f.clock(0, -1, 0), OUTSIDE);
        due("from", f.clock(0, 20001, 0), OUTSIDE);
        due("by", f.clock(0, 0, 501), OUTSIDE);
        due("by", f.clock(0, 0, -501), OUTSIDE);
        due("none is told", f.told(3), 0);
        due("first", f.clock(0, 100, 500), 1);
        due("ahead of the clock", f.struck(0, 2), 99);
        due("from then on", f.struck(1, 2), -400);
        due("as it came", f.struck(1, 1), 100);
        due("another tank", f.struck(3, 2), 500);
        due("told later, from an earlier time", f.clock(0, 50, -500), 2);
        due("the latest told goes", f.struck(2, 2), 1000);
        due("the latest told goes", f.struck(0, 2), 599);
        due("ahead of all", f.struck(4, 2), 0);
        due("told later, of later hits", f.clock(0, 400, 7), 3);
        due("not yet", f.struck(1, 2), 600);
        due("from then on", f.struck(2, 2), 493);
        due("back to right", f.clock(0, 0, 0), 4);
        due("back to right", f.struck(2, 2), 500);
        hits(f, 0, 60, 20);
        due("a hit that comes later", f.struck(5, 2), 60);
        for (int i = 5; i <= 20; i++) {
            due("clock " + i, f.clock(1, 20000, i), i);
        }
        due("UNKNOWN goes ahead of FULL", f.clock(2, 0, 0), UNKNOWN);
        due("OUTSIDE goes ahead of FULL", f.clock(0, 0, 501), OUTSIDE);
        due("FULL", f.clock(0, 0, 1), FULL);
        due("20 are told", f.told(3), 20);
    }

    private static void down() {
        TankField f = withTanks(0, 0, 10, 0);
        hits(f, 0, 99, 20, 0, 100, 20, 0, 199, 20, 0, 200, 20, 1, 150, 20, 0, 20000, 20);
        due("tank", f.down(2, -1, -1), UNKNOWN);
        due("tank", f.down(-1, 0, 0), UNKNOWN);
        due("from", f.down(0, -1, 5), OUTSIDE);
        due("from", f.down(0, 20001, 20001), OUTSIDE);
        due("to", f.down(0, 5, 4), OUTSIDE);
        due("to", f.down(0, 5, 20002), OUTSIDE);
        due("none is told", f.told(4), 0);
        due("first", f.down(0, 100, 200), 1);
        int[] looked = {1, 0, 0, 1, 1, 1};
        for (int h = 0; h < looked.length; h++) {
            due("looked at " + h, f.struck(h, 5), looked[h]);
        }
        due("for no time", f.down(0, 99, 99), 2);
        due("for no time", f.struck(0, 5), 1);
        due("to the end", f.down(0, 20000, 20001), 3);
        due("to the end", f.struck(5, 5), 0);
        due("by times as they came", f.clock(0, 0, 100), 1);
        due("by times as they came", f.struck(3, 5), 1);
        due("by times as they came", f.struck(2, 5), 0);
        for (int i = 4; i <= 20; i++) {
            due("down " + i, f.down(1, 0, 0), i);
        }
        due("UNKNOWN goes ahead of FULL", f.down(2, 0, 0), UNKNOWN);
        due("OUTSIDE goes ahead of FULL", f.down(0, 5, 4), OUTSIDE);
        due("FULL", f.down(0, 0, 1), FULL);
        due("20 are told", f.told(4), 20);
    }

    private static void about() {
        TankField f = square();
        hits(f, 0, 100, 20, 1, 100, 20, 2, 100, 20, 0, 101, 20, 0, 900, 20, 1, 900, 20, 3, 905, 20, 4, 900, 20);
        due("tank", f.about(5, 9), UNKNOWN);
        due("tank", f.about(-1, 0), UNKNOWN);
        due("what", f.about(0, -1), OUTSIDE);
        due("what", f.about(0, 5), OUTSIDE);
        due("x", f.about(1, 0), 10);
        due("y", f.about(1, 1), 0);
        due("y", f.about(2, 1), 10);
        due("hits", f.about(0, 2), 3);
        due("hits", f.about(4, 2), 1);
        due("none is down", f.about(0, 3), 0);
        due("no events yet", f.about(0, 4), 0);
        due("build", f.build(), 2);
        due("a member of two", f.about(0, 4), 2);
        due("a member of one", f.about(3, 4), 1);
        due("a member of none", f.about(4, 4), 0);
        due("down", f.down(0, 101, 901), 1);
        due("not looked at", f.about(0, 3), 2);
        due("all its hits", f.about(0, 2), 3);
        due("events stay", f.about(0, 4), 2);
        due("build", f.build(), 1);
        due("fewer events", f.about(0, 4), 1);
        TankField g = withTanks(0, 0);
        hits(g, 0, 5, 20);
        due("down", g.down(0, 0, 5), 1);
        due("ahead of its hit", g.about(0, 3), 0);
        due("down", g.down(0, 5, 6), 2);
        due("the first hit", g.about(0, 3), 1);
    }

    private static void struck() {
        TankField f = square();
        due("hit", f.struck(0, 9), UNKNOWN);
        hits(f, 0, 100, 254, 1, 100, 20, 2, 100, 20, 0, 101, 20);
        due("steep", f.hit(3, 90, 255, 254), 4);
        due("over", f.hit(4, 100, 255, -1), 5);
        due("brim", f.hit(4, 100, 255, 255), 6);
        due("hit", f.struck(7, 0), UNKNOWN);
        due("hit", f.struck(-1, 0), UNKNOWN);
        due("what", f.struck(0, -1), OUTSIDE);
        due("what", f.struck(0, 7), OUTSIDE);
        due("tank", f.struck(4, 0), 3);
        due("time", f.struck(4, 1), 90);
        int[] kinds = {0, 0, 0, 0, 1, 2, 3};
        int[] amounts = {254, 20, 20, 20, 4064, 255, 4080};
        for (int h = 0; h < kinds.length; h++) {
            due("kind", f.struck(h, 3), kinds[h]);
            due("amount", f.struck(h, 4), amounts[h]);
            due("looked at", f.struck(h, 5), 1);
            due("no event yet", f.struck(h, 6), NONE);
        }
        due("build", f.build(), 1);
        int[] events = {0, 0, 0, NONE, 0, NONE, NONE};
        for (int h = 0; h < events.length; h++) {
            due("event", f.struck(h, 6), events[h]);
        }
        hits(f, 1, 50, 20);
        due("a hit that came behind the building", f.struck(7, 6), NONE);
        due("clock", f.clock(1, 0, 9), 1);
        due("put right", f.struck(7, 2), 41);
        due("as it came", f.struck(7, 1), 50);
    }

    private static void exposure() {
        TankField f = withTanks(0, 0, 10, 0, 0, 10);
        due("from", f.exposure(-1, 0), LOST);
        due("from", f.exposure(20001, 20001), LOST);
        due("to", f.exposure(5, 4), LOST);
        due("to", f.exposure(0, 20002), LOST);
        due("all", f.exposure(0, 20001), 60003);
        due("none", f.exposure(7, 7), 0);
        due("down", f.down(0, 100, 200), 1);
        due("down", f.exposure(0, 1000), 2900);
        due("ahead", f.exposure(0, 100), 300);
        due("behind", f.exposure(200, 201), 3);
        due("within", f.exposure(150, 160), 20);
        due("across the end", f.exposure(199, 201), 5);
        due("overlap", f.down(0, 150, 250), 2);
        due("an overlap counts once", f.exposure(0, 1000), 2850);
        due("within another", f.down(0, 160, 170), 3);
        due("within another counts once", f.exposure(0, 1000), 2850);
        due("twice", f.down(0, 100, 200), 4);
        due("twice counts once", f.exposure(0, 1000), 2850);
        due("touching", f.down(0, 250, 260), 5);
        due("touching", f.exposure(0, 1000), 2840);
        due("for no time", f.down(0, 500, 500), 6);
        due("for no time", f.exposure(0, 1000), 2840);
        due("another tank", f.down(2, 0, 20001), 7);
        due("another tank", f.exposure(0, 1000), 1840);
        due("the last time", f.exposure(20000, 20001), 2);
        due("rising by ones", f.exposure(259, 261), 3);
        for (int i = 8; i <= 20; i++) {
            due("down", f.down(1, 1000 + 10 * i, 1005 + 10 * i), i);
        }
        due("many gaps", f.exposure(1000, 2000), 1935);
        TankField g = withTanks(0, 0);
        for (int i = 1; i <= 20; i++) {
            due("down", g.down(0, 1000 - 10 * i, 1005 - 10 * i), i);
        }
        due("as many gaps as can be", g.exposure(0, 20001), 20001 - 100);
    }

    private static void rule() {
        TankField f = new TankField();
        due("which", f.rule(-1, 5), UNKNOWN);
        due("which", f.rule(4, -5), UNKNOWN);
        int[] first = {100, 60, 3, 10};
        int[] lowest = {1, 1, 1, 0};
        int[] highest = {300, 300, 12, 4080};
        for (int which = 0; which < 4; which++) {
            due("below", f.rule(which, lowest[which] - 1), OUTSIDE);
            due("above", f.rule(which, highest[which] + 1), OUTSIDE);
            due("wild", f.rule(which, LOWEST), OUTSIDE);
            due("wild", f.rule(which, HIGHEST), OUTSIDE);
            due("unchanged", f.told(6 + which), first[which]);
            due("lowest", f.rule(which, lowest[which]), first[which]);
            due("highest", f.rule(which, highest[which]), lowest[which]);
            due("now", f.told(6 + which), highest[which]);
        }
    }

    private static void buildNear() {
        due("no hits", new TankField().build(), 0);
        TankField f = withTanks(0, 0, 30, 40, -30, -40);
        f.rule(2, 2);
        hits(f, 0, 1000, 10, 1, 1100, 9);
        due("below the mark", f.build(), 0);
        f.rule(3, 9);
        due("at the mark", f.build(), 1);
        f.rule(0, 99);
        due("beyond the window", f.build(), 0);
        f.rule(0, 100);
        f.rule(1, 49);
        due("beyond the reach", f.build(), 0);
        f.rule(1, 50);
        due("at the reach", f.build(), 1);
        f.clock(1, 0, -1);
        due("by times put right", f.build(), 0);
        f.clock(1, 0, 200);
        due("by times put right", f.build(), 1);
        due("first", f.event(0, 1), 900);
        f.down(1, 1100, 1101);
        due("down", f.build(), 0);
        f.rule(2, 1);
        due("one tank is enough", f.build(), 1);
        due("buildings", f.told(5), 9);
    }

    private static void buildGroups() {
        TankField f = withTanks(0, 0, 50, 0, 100, 0, 0, 0);
        f.rule(2, 2);
        hits(f, 0, 100, 20, 0, 110, 20);
        due("hits of one tank are not near", f.build(), 0);
        hits(f, 3, 105, 20);
        due("tanks at one place are near", f.build(), 1);
        due("both hits hang on the third", f.event(0, 3), 3);
        due("but one is a member", f.event(0, 0), 2);
        TankField chain = withTanks(0, 0, 50, 0, 100, 0);
        hits(chain, 2, 300, 20, 0, 100, 20, 1, 200, 20);
        due("a chain in place and time", chain.build(), 1);
        due("a chain in place and time", chain.event(0, 0), 3);
        due("down", chain.down(1, 0, 20001), 1);
        due("without the middle", chain.build(), 0);
        TankField edge = withTanks(0, 0, 50, 0, 100, 0);
        hits(edge, 0, 100, 20, 2, 100, 20, 1, 200, 20);
        due("a link at the window's edge both ways", edge.build(), 1);
        due("a link at the window's edge both ways", edge.event(0, 0), 3);
        TankField late = withTanks(0, 0, 50, 0, 100, 0);
        hits(late, 0, 100, 20, 2, 101, 20, 1, 200, 20);
        due("the link is the latest of them", late.build(), 1);
        due("the link is the latest of them", late.event(0, 0), 3);
        late.rule(0, 99);
        late.rule(2, 2);
        due("a window from the latest back", late.build(), 1);
        due("a window from the latest back", late.member(0, 0), 2);
        due("a window from the latest back", late.member(0, 1), 1);
        TankField back = withTanks(0, 0, 10, 0);
        back.rule(2, 2);
        hits(back, 0, 0, 20, 1, 100, 20, 0, 200, 20, 1, 300, 20);
        due("there and back", back.build(), 1);
        due("members", back.member(0, 0), 0);
        due("members", back.member(0, 1), 1);
        due("all hang together", back.event(0, 3), 4);
    }

    private static void buildOrder() {
        TankField f = withTanks(0, 0, 1, 0, 90, 90, 91, 90, -90, -90, -89, -90);
        f.rule(2, 2);
        hits(f, 4, 700, 20, 5, 650, 20, 2, 640, 20, 3, 645, 20, 1, 650, 20, 0, 640, 20);
        due("build", f.build(), 3);
        due("by the least time, then by number", f.member(0, 0), 2);
        due("by the least time, then by number", f.member(1, 0), 5);
        due("by the least time, then by number", f.member(2, 0), 0);
        TankField like = withTanks(0, 0, 1, 0);
        like.rule(2, 2);
        hits(like, 1, 100, 20, 0, 105, 20, 0, 105, 20, 0, 104, 20, 0, 104, 20, 0, 110, 20);
        due("build", like.build(), 1);
        due("least time, of like ones the least number", like.member(0, 0), 3);
        due("clock", like.clock(0, 105, 2), 1);
        due("build", like.build(), 1);
        due("by times put right", like.member(0, 0), 1);
        TankField tie = withTanks(90, 90, 91, 90, 0, 0, 1, 0);
        tie.rule(2, 2);
        hits(tie, 3, 500, 20, 1, 500, 20, 0, 499, 20, 2, 499, 20);
        due("build", tie.build(), 2);
        due("by a member with the least time only", tie.member(0, 0), 2);
        due("by a member with the least time only", tie.member(1, 1), 0);
    }

    private static void buildLeavesEvents() {
        TankField f = square();
        hits(f, 0, 100, 20, 1, 104, 20, 2, 107, 20);
        due("without building there are none", f.told(2), 0);
        due("build", f.build(), 1);
        f.clock(0, 0, 50);
        f.down(1, 0, 20001);
        f.rule(2, 12);
        hits(f, 2, 90, 20, 3, 100, 20);
        due("members stay", f.event(0, 0), 3);
        due("times stay", f.event(0, 1), 100);
        due("times stay", f.event(0, 2), 107);
        due("group stays", f.event(0, 3), 3);
        due("member stays", f.member(0, 2), 2);
        due("front stays", f.front(0, 2), 4000);
        due("errors stay", f.error(0, 0), 0);
        due("events stay", f.told(2), 1);
        due("its event stays", f.struck(1, 6), 0);
        due("build", f.build(), 0);
        due("no events", f.told(2), 0);
        due("no event", f.struck(1, 6), NONE);
        due("no event", f.event(0, 0), UNKNOWN);
    }

    private static void buildMost() {
        TankField f = withTanks(0, 0);
        f.rule(2, 1);
        fillWithHits(f, 240);
        due("every hit is an event", f.build(), 240);
        due("the last", f.member(239, 0), 239);
        due("no more", f.event(240, 0), UNKNOWN);
        due("in all", f.about(0, 4), 240);
        due("again", f.build(), 240);
        due("none is other", f.others(), 0);
    }

    private static void others() {
        TankField f = square();
        due("none was", f.others(), STATE);
        hits(f, 0, 100, 20, 1, 100, 20, 2, 100, 20, 0, 900, 20, 1, 900, 20, 2, 900, 20);
        f.build();
        due("one was", f.others(), STATE);
        f.build();
        due("two were", f.others(), 0);
        hits(f, 3, 905, 20);
        due("only by building", f.others(), 0);
        f.build();
        due("a member more", f.others(), 1);
        f.build();
        due("the one just ahead", f.others(), 0);
        hits(f, 2, 90, 20);
        f.clock(1, 0, 5);
        f.build();
        due("another member of a tank", f.others(), 1);
        f.down(3, 0, 20001);
        f.build();
        due("a member less", f.others(), 1);
        f.rule(2, 12);
        f.build();
        due("none are left", f.others(), 0);
        f.rule(2, 3);
        f.build();
        due("all are new", f.others(), 2);
        f.without(0);
        due("without is no building", f.others(), 2);
    }

    private static void isOther() {
        TankField f = square();
        f.rule(0, 50);
        due("none was", f.isOther(0), UNKNOWN);
        hits(f, 0, 100, 20, 1, 100, 20, 2, 100, 20, 0, 900, 20, 1, 900, 20, 2, 900, 20);
        f.build();
        due("UNKNOWN goes ahead of STATE", f.isOther(2), UNKNOWN);
        due("UNKNOWN goes ahead of STATE", f.isOther(-1), UNKNOWN);
        due("STATE", f.isOther(0), STATE);
        hits(f, 3, 905, 20);
        f.build();
        due("like", f.isOther(0), 0);
        due("other", f.isOther(1), 1);
        due("unknown", f.isOther(2), UNKNOWN);
        hits(f, 0, 10, 20, 1, 300, 20, 2, 500, 20, 1, 10, 20, 2, 10, 20);
        f.build();
        due("a new one ahead", f.isOther(0), 1);
        due("no more the first, but like", f.isOther(1), 0);
        due("no more the second, but like", f.isOther(2), 0);
    }

    private static void without() {
        TankField f = withTanks(0, 0, 50, 0, 100, 0, 50, 50);
        hits(f, 0, 100, 20, 1, 120, 20, 2, 140, 20, 3, 900, 20, 0, 900, 20);
        due("tank", f.without(4), UNKNOWN);
        due("tank", f.without(-1), UNKNOWN);
        due("without the middle", f.without(1), 0);
        due("without another", f.without(3), 1);
        due("no building", f.told(5), 0);
        due("no events", f.told(2), 0);
        f.rule(2, 2);
        due("as the rules are now", f.without(2), 1);
        due("as the rules are now", f.without(1), 0);
        f.rule(2, 1);
        due("in two parts", f.without(1), 4);
        due("build", f.build(), 3);
        due("as it was", f.event(0, 0), 3);
        due("as the downs are now", f.down(2, 0, 20001), 1);
        due("as the downs are now", f.without(1), 3);
        due("events stay", f.event(0, 0), 3);
        due("downs stay", f.told(4), 1);
        due("the tank is not down", f.struck(1, 5), 1);
    }

    private static void event() {
        TankField f = square();
        due("none", f.event(0, 0), UNKNOWN);
        hits(f, 0, 105, 20, 1, 101, 20, 2, 100, 20, 2, 150, 20, 1, 140, 20);
        f.hit(0, 900, 255, 10);
        f.hit(1, 950, 255, 254);
        f.hit(2, 800, 254, -1);
        f.hit(0, 950, 255, -1);
        f.hit(0, 3000, 255, -1);
        f.hit(1, 3000, 200, -1);
        f.hit(2, 3000, 200, -1);
        f.hit(0, 6000, 200, -1);
        f.hit(1, 6000, 200, -1);
        f.hit(2, 6000, 255, 255);
        due("build", f.build(), 4);
        due("event", f.event(4, 9), UNKNOWN);
        due("event", f.event(-1, 0), UNKNOWN);
        due("what", f.event(0, -1), OUTSIDE);
        due("what", f.event(0, 5), OUTSIDE);
        due("members", f.event(0, 0), 3);
        due("least", f.event(0, 1), 100);
        due("greatest of the members", f.event(0, 2), 105);
        due("group", f.event(0, 3), 5);
        due("least", f.event(1, 1), 800);
        due("greatest", f.event(1, 2), 950);
        due("group", f.event(1, 3), 4);
        int[] sure = {1, 1, 0, 0};
        for (int e = 0; e < sure.length; e++) {
            due("sure " + e, f.event(e, 4), sure[e]);
        }
        TankField early = square();
        hits(early, 0, 0, 20, 1, 3, 20, 2, 5, 20);
        for (int t = 0; t < 3; t++) {
            early.clock(t, 0, 500);
        }
        due("build", early.build(), 1);
        due("a time below 0", early.event(0, 1), -500);
        due("a time below 0", early.event(0, 2), -495);
    }

    private static void member() {
        TankField f = square();
        hits(f, 3, 101, 20, 2, 102, 20, 1, 103, 20, 0, 104, 20, 4, 100, 20, 0, 103, 20);
        due("none", f.member(0, 0), UNKNOWN);
        due("build", f.build(), 1);
        int[] due = {5, 2, 1, 0};
        for (int i = 0; i < due.length; i++) {
            due("by tanks, rising", f.member(0, i), due[i]);
        }
        due("place", f.member(0, 4), UNKNOWN);
        due("place", f.member(0, -1), UNKNOWN);
        due("event", f.member(1, 0), UNKNOWN);
        due("event", f.member(-1, 0), UNKNOWN);
        due("wild", f.member(HIGHEST, HIGHEST), UNKNOWN);
    }

    private static void front() {
        TankField f = square();
        due("none", f.front(0, 0), LOST);
        hits(f, 0, 105, 20, 1, 108, 20, 2, 101, 20);
        due("build", f.build(), 1);
        due("D", f.front(0, 0), 10000);
        due("C", f.front(0, 1), 40000);
        due("U", f.front(0, 2), 3000);
        due("V", f.front(0, 3), -4000);
        due("what", f.front(0, -1), LOST);
        due("what", f.front(0, 4), LOST);
        due("event", f.front(1, 0), LOST);
        due("event", f.front(-1, 1), LOST);
        hits(f, 3, 101, 20);
        due("build", f.build(), 1);
        due("D", f.front(0, 0), 40000);
        due("C", f.front(0, 1), 190000);
        due("U", f.front(0, 2), 6000);
        due("V", f.front(0, 3), -22000);
        TankField line = withTanks(0, 0, 7, 7, 14, 14);
        hits(line, 0, 100, 20, 1, 101, 20, 2, 107, 20);
        due("build", line.build(), 1);
        due("on one line D is 0", line.front(0, 0), 0);
        for (int what = 1; what <= 3; what++) {
            due("there is no front", line.front(0, what), LOST);
        }
    }

    /** A chain of hits across nearly all times, with tanks at the corners. */
    private static void frontOfFarTimes() {
        TankField f = withTanks(-100, -100, -100, -100, 100, -100, -100, 100);
        f.rule(0, 300);
        f.rule(1, 300);
        for (int i = 0; i <= 66; i++) {
            due("hit", f.hit(i % 2, 300 * i, 20, -1), i);
        }
        hits(f, 2, 20000, 20, 3, 20000, 20);
        f.clock(2, 0, -100);
        due("build", f.build(), 1);
        due("members", f.event(0, 0), 4);
        due("least", f.event(0, 1), 0);
        due("greatest", f.event(0, 2), 20100);
        // t = 0, 300, 20100, 20000; u = 19950 by 200, v = 19850 by 200, c = 150 + 100 (u + v).
        long d = 40000L * 80000L;
        due("D", f.front(0, 0), d);
        due("C", f.front(0, 1), d * 20050);
        due("U", f.front(0, 2), d / 4 * 399);
        due("V", f.front(0, 3), d / 4 * 397);
        due("error", f.error(0, 0), -150 * d);
        due("error", f.error(0, 1), 150 * d);
        due("error", f.error(0, 2), 0);
        due("error", f.error(0, 3), 0);
    }

    private static void error() {
        TankField f = square();
        hits(f, 0, 100, 20, 1, 100, 20, 2, 100, 20, 3, 104, 20);
        due("none", f.error(0, 0), LOST);
        due("build", f.build(), 1);
        long[] errors = {40000, -40000, -40000, 40000};
        for (int i = 0; i < errors.length; i++) {
            due("error " + i, f.error(0, i), errors[i]);
        }
        due("place", f.error(0, 4), LOST);
        due("place", f.error(0, -1), LOST);
        due("event", f.error(1, 0), LOST);
        due("event", f.error(-1, 0), LOST);
        TankField line = withTanks(0, 0, 0, 7, 0, 9);
        hits(line, 0, 100, 20, 1, 101, 20, 2, 107, 20);
        due("build", line.build(), 1);
        due("there is no front", line.error(0, 0), LOST);
    }

    private static void worst() {
        TankField f = square();
        hits(f, 0, 100, 20, 1, 100, 20, 2, 100, 20, 3, 104, 20);
        due("none", f.worst(0), UNKNOWN);
        due("build", f.build(), 1);
        due("the first of like ones", f.worst(0), 0);
        due("event", f.worst(1), UNKNOWN);
        due("event", f.worst(-1), UNKNOWN);
        // A tank in the middle of the square draws all of the front's blame, or most of it.
        TankField middle = withTanks(0, 0, 10, 0, 5, 5, 0, 10, 10, 10);
        hits(middle, 0, 100, 20, 1, 100, 20, 2, 90, 20, 3, 100, 20, 4, 100, 20);
        due("build", middle.build(), 1);
        due("furthest below 0", middle.worst(0), 2);
        due("furthest below 0", middle.error(0, 2), -8 * middle.front(0, 0));
        due("early no more", middle.clock(2, 0, -20), 1);
        due("build", middle.build(), 1);
        due("furthest above 0", middle.worst(0), 2);
        TankField exact = square();
        hits(exact, 0, 100, 20, 1, 105, 20, 2, 107, 20);
        due("build", exact.build(), 1);
        due("c is 0", exact.front(0, 1), 0);
        due("all errors are 0", exact.worst(0), 0);
        TankField slight = withTanks(0, 0, 1, 0, 0, 1, 0, 1);
        hits(slight, 0, 100, 20, 1, 100, 20, 2, 101, 20, 3, 100, 20);
        due("build", slight.build(), 1);
        due("an error of 1", slight.error(0, 2), 1);
        due("an error of 1", slight.worst(0), 2);
        TankField line = withTanks(0, 0, 7, 0, 9, 0);
        hits(line, 0, 100, 20, 1, 101, 20, 2, 107, 20);
        due("build", line.build(), 1);
        due("there is no front", line.worst(0), NONE);
    }

    private static void core() {
        TankField f = withTanks(-100, 3, -90, 0, -95, -7);
        due("none", f.core(0, 0), LOST);
        f.hit(0, 100, 20, -1);
        f.hit(1, 100, 255, 100);
        f.hit(2, 100, 255, 255);
        f.hit(0, 101, 200, -1);
        due("build", f.build(), 1);
        due("x", f.core(0, 0), -100 * 20 - 90 * 1600 - 95 * 4080);
        due("y", f.core(0, 1), 3 * 20 - 7 * 4080);
        due("size", f.core(0, 2), 20 + 1600 + 4080);
        due("what", f.core(0, -1), LOST);
        due("what", f.core(0, 3), LOST);
        due("event", f.core(1, 0), LOST);
        due("event", f.core(-1, 0), LOST);
        TankField over = withTanks(50, 60);
        over.rule(2, 1);
        over.hit(0, 1, 255, -1);
        due("build", over.build(), 1);
        due("over", over.core(0, 2), 255);
        due("over", over.core(0, 0), 255 * 50);
    }

    private static void sheet() {
        TankField f = new TankField();
        due("sheet", f.sheet(4, 9, -1), UNKNOWN);
        due("sheet", f.sheet(-1, 0, 0), UNKNOWN);
        due("lane", f.sheet(0, 3, -1), OUTSIDE);
        due("lane", f.sheet(0, -1, 1), OUTSIDE);
        due("n", f.sheet(0, 0, 41), OUTSIDE);
        due("n", f.sheet(0, 0, HIGHEST), OUTSIDE);
        due("SIZE", f.sheet(0, 0, -1), SIZE);
        due("SIZE", f.sheet(0, 0, LOWEST), SIZE);
        due("nothing came", f.drop(0), 0);
        for (int k = 0; k < 4; k++) {
            due("most", f.sheet(k, k % 3, 40), 1);
            due("last cell", f.put(k, 39, k + 1), 1);
        }
        for (int k = 0; k < 4; k++) {
            due("0 at first", f.at(k, 0, k % 3), 0);
            due("each has its own", f.at(k, 39, k % 3), k + 1);
        }
        due("a fault changes nothing", f.sheet(1, 2, -1), SIZE);
        due("a fault changes nothing", f.at(1, 39, 1), 2);
        due("new row", f.sheet(1, 2, 40), 1);
        due("new row, 0 again", f.at(1, 39, 2), 0);
        due("the others stay", f.at(0, 39, 0), 1);
        due("the others stay", f.at(2, 39, 2), 3);
        due("of none", f.sheet(1, 1, 0), 1);
        due("of none", f.at(1, 0, 1), LOST);
        due("of none is not nothing", f.fault(), 3);
        due("of none is not nothing", f.drop(1), 1);
    }

    private static void drop() {
        TankField f = new TankField();
        due("sheet", f.drop(-1), UNKNOWN);
        due("sheet", f.drop(4), UNKNOWN);
        due("had nothing", f.drop(3), 0);
        due("row", f.sheet(3, 2, 5), 1);
        due("had a row", f.drop(3), 1);
        due("had nothing", f.drop(3), 0);
        due("NULL", f.put(3, 0, 1), NULL);
        due("drop names no fault", f.drop(3), 0);
        due("drop names no fault", f.fault(), 1);
    }

    private static void put() {
        TankField f = new TankField();
        due("sheet", f.put(-1, 0, 0), UNKNOWN);
        due("sheet", f.put(4, 0, 0), UNKNOWN);
        due("NULL goes ahead of INDEX", f.put(0, -1, 0), NULL);
        f.sheet(0, 0, 3);
        f.sheet(1, 1, 3);
        f.sheet(2, 2, 3);
        due("INDEX", f.put(0, -1, 5), INDEX);
        due("INDEX", f.put(0, 3, 5), INDEX);
        due("INDEX", f.put(0, LOWEST, 5), INDEX);
        due("INDEX", f.put(0, HIGHEST, 5), INDEX);
        int[] values = {127, 128, 255, 256, -129, 32767, 32768, 65535, 65536, -32769, HIGHEST, LOWEST};
        for (int v : values) {
            for (int k = 0; k < 3; k++) {
                due("put", f.put(k, 2, v), 1);
                due("cut to its lane " + v, f.at(k, 2, k), k == 0 ? (byte) v : k == 1 ? (short) v : v);
            }
        }
        due("its neighbour stays", f.at(0, 1, 0), 0);
    }

    private static void at() {
        TankField f = new TankField();
        f.sheet(0, 0, 3);
        f.put(0, 1, -7);
        due("cell", f.at(0, 1, 0), -7);
        due("fault", f.fault(), 0);
        due("CAST goes ahead of INDEX", f.at(0, 3, 1), LOST);
        due("CAST", f.fault(), 2);
        due("sheet", f.at(4, 0, 0), LOST);
        due("refused", f.fault(), 0);
        due("CAST", f.at(0, 0, 2), LOST);
        due("CAST", f.fault(), 2);
        due("lane", f.at(0, 0, 3), LOST);
        due("refused", f.fault(), 0);
        due("nothing is no CAST", f.at(1, 9, 2), LOST);
        due("NULL", f.fault(), 1);
        due("lane", f.at(1, 0, -1), LOST);
        due("refused, though nothing", f.fault(), 0);
        due("INDEX", f.at(0, 3, 0), LOST);
        due("INDEX", f.fault(), 3);
        due("sheet", f.at(-1, 0, 0), LOST);
        due("refused", f.fault(), 0);
        due("INDEX", f.at(0, -1, 0), LOST);
        due("INDEX", f.fault(), 3);
    }

    /** Hits 0 PLAIN, 1 STEEP, 2 OVER, 3 BRIM. */
    private static TankField kinds() {
        TankField f = withTanks(0, 0);
        f.hit(0, 1, 77, -1);
        f.hit(0, 2, 255, 3);
        f.hit(0, 3, 255, -1);
        f.hit(0, 4, 255, 255);
        return f;
    }

    private static void tell() {
        TankField f = kinds();
        due("hit", f.tell(4), UNKNOWN);
        due("hit", f.tell(-1), UNKNOWN);
        due("no body began", f.trace(), 0);
        due("plain", f.tell(0), 77);
        due("body 1", f.trace(), 1);
        due("steep", f.tell(1), 48 + 255);
        due("bodies 2, 1", f.trace(), (1 * 31 + 2) * 31 + 1);
        f = kinds();
        due("over", f.tell(2), 255);
        due("body 1", f.trace(), 1);
        f = kinds();
        due("brim", f.tell(3), 246);
        due("bodies 3, 1", f.trace(), 3 * 31 + 1);
    }

    private static void weigh() {
        TankField f = kinds();
        due("hit", f.weigh(4), UNKNOWN);
        due("hit", f.weigh(-1), UNKNOWN);
        due("no body began", f.trace(), 0);
        due("plain", f.weigh(0), 77);
        due("body 4", f.trace(), 4);
        due("steep", f.weigh(1), 49);
        due("body 4", f.trace(), 4 * 31 + 4);
        f = kinds();
        due("over", f.weigh(2), 0);
        due("body 5", f.trace(), 5);
        due("brim", f.weigh(3), 0);
        due("body 5", f.trace(), 5 * 31 + 5);
    }

    private static void as() {
        TankField f = kinds();
        int[][] fits = {{1, CAST, CAST, CAST}, {1, 1, CAST, CAST}, {1, CAST, 1, CAST}, {1, CAST, 1, 1}};
        for (int h = 0; h < 4; h++) {
            for (int kind = 0; kind < 4; kind++) {
                due("hit " + h + " as " + kind, f.as(h, kind), fits[h][kind]);
                due("fault", f.fault(), fits[h][kind] == CAST ? 2 : 0);
            }
            due("kind", f.as(h, -1), OUTSIDE);
            due("kind", f.as(h, 4), OUTSIDE);
        }
        due("hit", f.as(4, 4), UNKNOWN);
        due("hit", f.as(-1, 0), UNKNOWN);
        due("no body began", f.trace(), 0);
    }

    private static void trace() {
        TankField f = kinds();
        int want = 0;
        for (int i = 0; i < 40; i++) {
            f.tell(1);
            want = (want * 31 + 2) * 31 + 1;
            due("it wraps", f.trace(), want);
            f.weigh(3);
            want = want * 31 + 5;
            due("it wraps", f.trace(), want);
        }
        f.struck(1, 4);
        f.build();
        due("no other call leaves a number", f.trace(), want);
    }

    private static void fault() {
        TankField f = kinds();
        due("0 ahead of any", f.fault(), 0);
        due("NULL", f.put(0, 0, 0), NULL);
        due("NULL", f.fault(), 1);
        due("NULL still", f.fault(), 1);
        f.tank(500, 0);
        f.hit(9, 0, 0, 0);
        f.build();
        f.others();
        f.tell(0);
        f.weigh(0);
        f.drop(0);
        f.drop(9);
        f.told(99);
        f.front(0, 0);
        f.exposure(5, 4);
        due("calls that name none leave it", f.fault(), 1);
        due("refused", f.put(4, 0, 0), UNKNOWN);
        due("refused", f.fault(), 0);
        due("SIZE", f.sheet(0, 0, -1), SIZE);
        due("SIZE", f.fault(), 4);
        due("OUTSIDE", f.sheet(0, 0, 41), OUTSIDE);
        due("refused", f.fault(), 0);
        due("CAST", f.as(0, 3), CAST);
        due("CAST", f.fault(), 2);
        due("no fault", f.sheet(0, 1, 4), 1);
        due("no fault", f.fault(), 0);
        due("INDEX", f.put(0, 4, 1), INDEX);
        due("INDEX", f.fault(), 3);
        due("no fault", f.put(0, 3, 1), 1);
        due("no fault", f.fault(), 0);
        due("CAST", f.load(0, 0, 0, 1), CAST);
        due("CAST", f.fault(), 2);
        due("refused", f.load(0, 9, 0, 1), OUTSIDE);
        due("refused", f.fault(), 0);
        due("NULL", f.load(1, 0, 0, 1), NULL);
        due("NULL", f.fault(), 1);
        due("no fault", f.load(0, 1, 0, 0), 4);
        due("no fault", f.fault(), 0);
        due("CAST", f.as(2, 1), CAST);
        due("refused", f.as(9, 1), UNKNOWN);
        due("refused", f.fault(), 0);
        due("INDEX", f.load(0, 1, 1, 1), INDEX);
        due("no fault", f.at(0, 3, 1), 1);
        due("no fault", f.fault(), 0);
    }

    private static void told() {
        TankField f = square();
        hits(f, 0, 100, 20, 1, 100, 20, 2, 100, 20, 3, 800, 20);
        f.clock(0, 0, 1);
        f.clock(0, 0, 2);
        f.down(4, 0, 1);
        f.down(4, 0, 2);
        f.down(4, 0, 3);
        for (int i = 0; i < 7; i++) {
            due("build", f.build(), 1);
        }
        f.rule(0, 11);
        f.rule(1, 12);
        f.rule(2, 8);
        f.rule(3, 14);
        long[] due = {5, 4, 1, 2, 3, 7, 11, 12, 8, 14};
        for (int what = 0; what < due.length; what++) {
            due("told " + what, f.told(what), due[what]);
        }
        due("what", f.told(-1), OUTSIDE);
        due("what", f.told(10), OUTSIDE);
        due("what", f.told(LOWEST), OUTSIDE);
        due("what", f.told(HIGHEST), OUTSIDE);
    }
}
