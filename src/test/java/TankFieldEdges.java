import java.io.IOException;

/** Each promise's sentences, at the last number that is let in and the first that is not, and what a refusal leaves. */
public final class TankFieldEdges {
    /**
     * Something of everything: EVENT 0 has HITS 0 to 3, EVENT 1 HITS 6, 7, 8, 11 and is other than ahead; HIT 4 is of
     * a GROUP and no MEMBER, HIT 9 came when its TANK was DOWN, HIT 12 behind the BUILDINGS.
     */
    private static final String RICH = "tank 0 0; tank 10 0; tank 0 10; tank 10 10; tank 100 100; hit 0 1000 20 -1;"
            + "hit 1 1030 255 3; hit 2 1015 255 -1; hit 3 1045 255 255; hit 0 1050 30 -1; hit 4 1000 40 -1;"
            + "hit 0 5000 20 -1; hit 1 5000 20 -1; hit 2 5000 20 -1; hit 3 9000 20 -1; hit 0 8000 5 -1; clock 1 900 30;"
            + "down 3 8999 9001; build; tell 1; weigh 3; hit 3 5010 20 -1; sheet 0 0 8; put 0 0 1; put 0 7 -1;"
            + "sheet 1 1 12; put 1 1 6000; put 1 2 20; put 1 3 -1; put 1 4 1; put 1 5 6001; put 1 6 255; put 1 7 7;"
            + "put 1 8 5; put 1 9 6002; put 1 10 20; put 1 11 -1; sheet 2 2 0; build; rule 0 90; rule 1 50; rule 2 2;"
            + "rule 3 11; hit 4 1001 50 -1; down 4 0 1; ";
    private static final String ONE = "tank 0 0; ";
    private static final String ALONE = "tank 0 0; rule 2 1; ";
    private static final String THREE = "tank 0 0; tank 10 0; tank 0 10; tank 10 10; ";
    private static final String EVENT = "hit 0 100 20 -1; hit 1 100 20 -1; hit 2 100 20 -1; ";
    private static final String KINDS = "tank 0 0; hit 0 1 77 -1; hit 0 2 255 3; hit 0 3 255 -1; hit 0 4 255 255; ";
    /** Calls that name FAULTS, behind which fault() tells 0: they are done, or refused. */
    private static final String[] CAME_TO_NONE = {"load 0 0 0 1 = 5", "load 0 0 4 0 = 4", "sheet 1 0 1 = 1", "put 0 0 0 = 1",
        "at 0 2 0 = 9", "as 3 2 = 1", "load 4 0 0 0 = UNKNOWN", "load 0 3 0 0 = OUTSIDE", "load 2 1 0 1 = UNKNOWN",
        "load 2 1 4 1 = OUTSIDE", "sheet 4 0 0 = UNKNOWN", "sheet 0 3 -1 = OUTSIDE", "sheet 0 0 41 = OUTSIDE",
        "put 4 0 0 = UNKNOWN", "at 4 0 0 = LOST", "at 0 0 3 = LOST", "at 3 0 3 = LOST", "as 4 0 = UNKNOWN",
        "as 0 4 = OUTSIDE"};
    private static final String[] CAME_TO_ONE = {"load 3 0 0 0 = NULL; fault = 1", "load 0 1 0 0 = CAST; fault = 2",
        "load 0 0 1 1 = INDEX; fault = 3", "load 0 0 0 -1 = SIZE; fault = 4", "sheet 0 0 -1 = SIZE; fault = 4",
        "put 3 0 0 = NULL; fault = 1", "put 0 4 0 = INDEX; fault = 3", "at 3 0 0 = LOST; fault = 1",
        "at 0 0 1 = LOST; fault = 2", "at 0 4 0 = LOST; fault = 3", "as 0 1 = CAST; fault = 2"};
    /** Calls that name no FAULTS, done or refused: fault() tells behind them what it told ahead. */
    private static final String[] NAME_NONE = {"tank 0 0 = 1", "tank 101 0 = OUTSIDE", "hit 0 0 0 -1 = 4",
        "hit 9 0 0 -1 = UNKNOWN", "clock 0 0 0 = 1", "clock 9 0 0 = UNKNOWN", "down 0 0 0 = 1", "down 9 0 0 = UNKNOWN",
        "about 0 0 = 0", "about 0 9 = OUTSIDE", "struck 0 0 = 0", "struck 9 0 = UNKNOWN", "exposure 0 1 = 1",
        "exposure 1 0 = LOST", "rule 0 9 = 100", "rule 9 0 = UNKNOWN", "build = 0", "others = STATE", "isOther 0 = UNKNOWN",
        "without 0 = 0", "without 9 = UNKNOWN", "event 0 0 = UNKNOWN", "member 0 0 = UNKNOWN", "front 0 0 = LOST",
        "error 0 0 = LOST", "worst 0 = UNKNOWN", "core 0 0 = LOST", "drop 0 = 1", "drop 3 = 0", "drop 4 = UNKNOWN",
        "tell 0 = 77", "tell 9 = UNKNOWN", "weigh 0 = 77", "weigh 9 = UNKNOWN", "trace = 0", "told 0 = 1",
        "told 99 = OUTSIDE"};

    private static Runs runs;

    public static void main(String[] args) throws IOException {
        runs = new Runs();
        newObject();
        tank();
        hit();
        load();
        loadFaults();
        loadRefusals();
        clock();
        down();
        about();
        struck();
        exposure();
        rule();
        build();
        others();
        isOther();
        without();
        event();
        member();
        front();
        error();
        worst();
        core();
        sheet();
        drop();
        put();
        at();
        tell();
        weigh();
        as();
        trace();
        fault();
        told();
        runs.checkEveryPromise(30);
        runs.close();
    }

    /** So many HITS, and SHEET 3 with ten more, of TANK 0 at TIMES 0, 100 .. 900. */
    private static String loaded(int hits) {
        StringBuilder calls = new StringBuilder("sheet 3 2 40; ");
        for (int h = 0; h < 10; h++) {
            calls.append("put 3 " + (4 * h + 1) + " " + 100 * h + "; ");
            calls.append("put 3 " + (4 * h + 2) + " 20; put 3 " + (4 * h + 3) + " -1; ");
        }
        for (int left = hits; left > 0; left -= 10) {
            calls.append("load 3 2 0 " + Math.min(left, 10) + "; ");
        }
        return calls.toString();
    }

    /** An int SHEET 0 with such cells. */
    private static String cells(String... values) {
        return cells(0, 2, values);
    }

    private static String cells(int k, int lane, String... values) {
        String[] all = String.join(" ", values).split(" ");
        StringBuilder calls = new StringBuilder("sheet " + k + " " + lane + " " + all.length + "; ");
        for (int i = 0; i < all.length; i++) {
            calls.append("put " + k + " " + i + " " + all[i] + "; ");
        }
        return calls.toString();
    }

    private static void newObject() {
        runs.sentence("No TANKS, HITS, EVENTS, SHEETS; RULES as at first.");
        runs.rows("", Runs.times(6, "told # = 0"), "told 6 = 100", "told 7 = 60", "told 8 = 3", "told 9 = 10", "trace = 0",
                "fault = 0", "about 0 0 ! UNKNOWN", "hit 0 0 0 -1 ! UNKNOWN", "clock 0 0 0 ! UNKNOWN", "down 0 0 0 ! UNKNOWN",
                "without 0 ! UNKNOWN", "struck 0 0 ! UNKNOWN", "tell 0 ! UNKNOWN", "weigh 0 ! UNKNOWN", "as 0 0 ! UNKNOWN",
                "event 0 0 ! UNKNOWN", "member 0 0 ! UNKNOWN", "front 0 0 ! LOST", "error 0 0 ! LOST", "worst 0 ! UNKNOWN",
                "core 0 0 ! LOST", "isOther 0 ! UNKNOWN", "others ! STATE", "exposure 0 20001 ! 0",
                Runs.times(4, "drop # ! 0; put # 0 0 ! NULL; at # 0 0 ! LOST NULL; load # 0 0 0 ! NULL"));
    }

    private static void tank() {
        runs.sentence("A TANK more: its number. OUTSIDE; FULL.");
        runs.rows(Runs.times(28, "tank # 0"), "tank 100 100 = 28", "tank 101 0 ! OUTSIDE", "tank -100 -100 = 29",
                "tank 101 0 ! OUTSIDE", "tank 0 -101 ! OUTSIDE", "tank 100 100 ! FULL", "about 28 0 = 100",
                "about 29 1 = -100", "about 30 0 ! UNKNOWN");
        runs.each(RICH, "tank * 100", "OUTSIDE", "MIN -101 101 MAX");
        runs.each(RICH, "tank -100 *", "OUTSIDE", "MIN -101 101 MAX");
        runs.rows(RICH, "tank 100 -100 = 5", "told 0 = 6");
    }

    private static void hit() {
        runs.sentence("A HIT more; high -1: none: its number.");
        runs.rows(RICH, "hit 4 20000 255 -1 = 13", "struck 13 0 = 4", "struck 13 1 = 20000", "struck 13 3 = 2",
                "hit 0 0 0 -1 = 14", "struck 14 3 = 0", "told 1 = 15");

        runs.sentence("UNKNOWN: TANK; OUTSIDE: time, low, high; high is told where low is below 255; FULL.");
        runs.each(RICH, "hit * 0 0 -1", "UNKNOWN", "MIN -1 5 MAX");
        runs.each(RICH, "hit 5 * 256 256", "UNKNOWN", "-1 0");
        runs.each(RICH, "hit 4 * 0 -1", "OUTSIDE", "MIN -1 20001 MAX");
        runs.each(RICH, "hit 4 0 * -1", "OUTSIDE", "MIN -1 256 MAX");
        runs.each(RICH, "hit 4 0 255 *", "OUTSIDE", "MIN -2 256 MAX");
        runs.each(RICH, "hit 4 0 254 *", "OUTSIDE", "MIN -2 0 1 254 255 256 MAX");
        runs.each(RICH, "hit 4 0 0 *", "OUTSIDE", "-2 0 255");
        runs.rows(RICH, "hit 4 0 254 -1 = 13", "hit 4 0 255 0 = 14", "hit 4 0 255 254 = 15", "hit 4 0 255 255 = 16");
        runs.rows(ONE + loaded(239), "hit 1 0 20 -1 ! UNKNOWN", "hit 0 -1 20 -1 ! OUTSIDE", "hit 0 7 20 -1 = 239",
                "hit 1 0 20 -1 ! UNKNOWN", "hit 0 20001 20 -1 ! OUTSIDE", "hit 0 0 254 0 ! OUTSIDE", "hit 0 0 20 -1 ! FULL",
                "struck 239 1 = 7", "struck 240 1 ! UNKNOWN");
    }

    private static void load() {
        runs.sentence("HITS more, four cells each (tank, time, low, high) from cell i on of a SHEET, taken as a row of a LANE, "
                + "n of them: how many HITS there are.");
        runs.rows(RICH, "load 1 1 0 2 = 15", "struck 13 0 = 0", "struck 13 1 = 6000", "struck 13 4 = 20", "struck 14 0 = 1",
                "struck 14 1 = 6001", "struck 14 2 = 5971", "struck 14 3 = 1", "struck 14 4 = 112", "load 1 1 4 1 = 16",
                "struck 15 1 = 6001", "told 1 = 16");
        runs.rows(RICH, "load 1 1 0 0 ! 13", "load 1 1 12 0 ! 13", "load 2 2 0 0 ! 13", "load 0 0 8 0 ! 13");
        runs.rows("tank 0 0; tank 1 1; " + cells("0 0 0 -1 1 20000 254 -1 0 0 255 -1 1 20000 255 0 0 0 255 254 1 20000 255 255"),
                "load 0 2 0 6 = 6", "struck 0 4 = 0", "struck 1 1 = 20000", "struck 1 4 = 254", "struck 2 3 = 2",
                "struck 3 3 = 1", "struck 4 4 = 4064", "struck 5 3 = 3", "struck 5 0 = 1");
        runs.rows(ONE + loaded(0), "load 3 2 0 10 = 10", "struck 9 1 = 900", "load 3 2 36 1 = 11", "struck 10 1 = 900",
                "load 3 2 32 2 = 13", "struck 11 1 = 800");
        runs.rows(ONE + cells(0, 0, "0 127 127 -1") + cells(1, 1, "0 20000 255 255"), "load 0 0 0 1 = 1", "load 1 1 0 1 = 2",
                "struck 0 1 = 127", "struck 1 3 = 3");
    }

    private static void loadFaults() {
        runs.sentence("UNKNOWN: SHEET; OUTSIDE: lane; CAST (nothing is no CAST); NULL; SIZE: n below 0; INDEX");
        runs.each(RICH, "load * 0 0 0", "UNKNOWN", "MIN -1 4 MAX");
        runs.each(RICH, "load 4 * -1 -1", "UNKNOWN", "-1 0 3");
        for (int k = 0; k < 4; k++) {
            runs.each(RICH, "load " + k + " * -1 -1", "OUTSIDE", "MIN -1 3 MAX");
        }
        runs.each(RICH, "load 0 * -1 -1", "CAST", "1 2");
        runs.each(RICH, "load 1 * 0 0", "CAST", "0 2");
        runs.each(RICH, "load 2 * 0 0", "CAST", "0 1");
        runs.each(RICH, "load 3 * -1 -1", "NULL", "0 1 2");
        runs.each(RICH, "load 3 * 0 0", "NULL", "0 1 2");
        runs.each(RICH, "load 1 1 0 *", "SIZE", "MIN -2 -1");
        runs.each(RICH, "load 1 1 * -1", "SIZE", "MIN -1 0 12 13 MAX");
        runs.each(RICH, "load 1 1 * 0", "INDEX", "MIN -4 -1 13 16 MAX");
        runs.each(RICH, "load 1 1 * 1", "INDEX", "MIN -1 9 12 2147483644 MAX");
        runs.each(RICH, "load 1 1 * 2", "INDEX", "MIN -8 -1 5 MAX");
        runs.each(RICH, "load 1 1 0 *", "INDEX", "4 536870911 536870912 1073741823 1073741824 1610612736 MAX");
        runs.each(RICH, "load 1 1 8 *", "INDEX", "2 1073741824 MAX");
        runs.each(RICH, "load 1 1 -8 *", "INDEX", "2 3 4");
        runs.each(RICH, "load 1 1 MAX *", "INDEX", "536870912 1073741824 MAX");
        runs.rows(RICH, "load 2 2 0 1 ! INDEX", "load 2 2 1 0 ! INDEX", "load 2 2 -1 0 ! INDEX", "load 1 1 8 1 ! UNKNOWN",
                "load 1 1 4 1 = 14");
        runs.rows(ONE + loaded(0), "load 3 2 0 11 ! INDEX", "load 3 2 1 10 ! INDEX", "load 3 2 37 1 ! INDEX",
                "load 3 2 41 0 ! INDEX", "load 3 2 40 0 ! 0", "load 3 2 0 10 = 10");
    }

    private static void loadRefusals() {
        runs.sentence("then UNKNOWN, OUTSIDE: of a HIT, one by one; FULL.");
        runs.each(ONE + cells("0 5 20 -1 0 5 20 -1") + "put 0 4 1", "load 0 2 * 1", "UNKNOWN", "4");
        String[] unknown = {"-1 0 0 -1", "1 0 0 -1", "MIN 0 0 -1", "MAX 0 0 -1", "1 -1 256 256"};
        for (String hit : unknown) {
            runs.rows(ONE + cells("0 5 20 -1", hit), "load 0 2 4 1 ! UNKNOWN", "load 0 2 0 2 ! UNKNOWN", "load 0 2 0 1 = 1");
        }
        String[] outside = {"0 -1 0 -1", "0 20001 0 -1", "0 MIN 0 -1", "0 MAX 0 -1", "0 0 -1 -1", "0 0 256 -1", "0 0 MIN -1",
            "0 0 MAX -1", "0 0 255 -2", "0 0 255 256", "0 0 255 MIN", "0 0 255 MAX", "0 0 254 0", "0 0 254 255", "0 0 0 -2"};
        for (String hit : outside) {
            runs.rows(ONE + cells("0 5 20 -1", hit), "load 0 2 4 1 ! OUTSIDE", "load 0 2 0 2 ! OUTSIDE", "load 0 2 0 1 = 1");
        }
        runs.rows(ONE + cells("0 5 20 -1 0 5 256 -1 1 5 20 -1"), "load 0 2 0 3 ! OUTSIDE", "load 0 2 8 1 ! UNKNOWN");
        runs.rows(ONE + cells("0 5 20 -1 1 5 20 -1 0 5 256 -1"), "load 0 2 0 3 ! UNKNOWN", "load 0 2 8 1 ! OUTSIDE");
        runs.rows(ONE + cells(0, 0, "0 5 255 -1"), "load 0 0 0 1 ! OUTSIDE");
        runs.rows(ONE + loaded(230), "load 3 2 0 10 = 240", "load 3 2 0 0 ! 240", "load 3 2 0 1 ! FULL", "told 1 = 240");
        runs.rows(ONE + loaded(231), "load 3 2 0 10 ! FULL", "load 3 2 0 9 = 240", "load 3 2 0 1 ! FULL");
        runs.rows(ONE + loaded(239), "load 3 2 0 2 ! FULL", "load 3 2 36 1 = 240", "struck 239 1 = 900");
        runs.rows(ONE + loaded(239) + "put 3 4 1; put 3 8 -1; put 3 13 20001", "load 3 2 0 2 ! UNKNOWN",
                "load 3 2 12 1 ! OUTSIDE", "load 3 2 16 2 ! FULL", "load 3 2 16 1 = 240", "load 3 2 0 2 ! UNKNOWN",
                "load 3 2 12 1 ! OUTSIDE", "load 3 2 16 1 ! FULL", "load 3 2 40 1 ! INDEX", "load 3 2 0 -1 ! SIZE");
    }

    private static void clock() {
        runs.sentence("A CLOCK: how many such things are told. UNKNOWN; OUTSIDE: from is not 0 .. 20000, by; FULL: 20.");
        runs.each(RICH, "clock * 0 0", "UNKNOWN", "MIN -1 5 MAX");
        runs.each(RICH, "clock 5 * 501", "UNKNOWN", "-1 20001");
        runs.each(RICH, "clock 4 * 0", "OUTSIDE", "MIN -1 20001 MAX");
        runs.each(RICH, "clock 4 0 *", "OUTSIDE", "MIN -501 501 MAX");
        runs.rows(RICH, "clock 4 0 -500 = 2", "clock 0 20000 500 = 3", "told 3 = 3");
        runs.rows("tank 0 0; tank 1 0; hit 0 600 20 -1; hit 1 20000 20 -1; " + Runs.times(19, "clock 0 # #"), "struck 0 2 = 582",
                "clock 2 0 0 ! UNKNOWN", "clock 0 -1 0 ! OUTSIDE", "clock 1 20000 500 = 20", "clock 2 0 0 ! UNKNOWN",
                "clock 0 20001 0 ! OUTSIDE", "clock 0 0 -501 ! OUTSIDE", "clock 0 0 0 ! FULL", "clock 1 0 0 ! FULL",
                "struck 0 2 = 582", "struck 1 2 = 19500", "told 3 = 20", "down 0 0 1 = 1");
    }

    private static void down() {
        runs.sentence("DOWN: how many such things are told. UNKNOWN; OUTSIDE: from is not 0 .. 20000, to is not from .. 20001; "
                + "FULL: 20.");
        runs.each(RICH, "down * 0 0", "UNKNOWN", "MIN -1 5 MAX");
        runs.each(RICH, "down 5 * -1", "UNKNOWN", "-1 20001");
        runs.each(RICH, "down 4 * 20001", "OUTSIDE", "MIN -1 20001 20002 MAX");
        runs.each(RICH, "down 4 -1 *", "OUTSIDE", "-1 0");
        runs.each(RICH, "down 4 500 *", "OUTSIDE", "MIN -1 0 499 20002 MAX");
        runs.each(RICH, "down 4 0 *", "OUTSIDE", "MIN -1 20002 MAX");
        runs.each(RICH, "down 4 20000 *", "OUTSIDE", "MIN 19999 20002 MAX");
        runs.rows(RICH, "down 4 0 0 = 3", "down 4 500 500 = 4", "down 4 20000 20000 = 5", "about 4 3 = 0",
                "down 4 20000 20001 = 6", "down 4 0 20001 = 7", "about 4 3 = 2");
        runs.rows("tank 0 0; tank 1 0; hit 0 600 20 -1; hit 1 0 20 -1; " + Runs.times(19, "down 0 # 500"), "down 2 0 0 ! UNKNOWN",
                "down 0 -1 0 ! OUTSIDE", "down 1 0 20001 = 20", "down 2 0 0 ! UNKNOWN", "down 0 20001 20001 ! OUTSIDE",
                "down 0 1 0 ! OUTSIDE", "down 0 0 20001 ! FULL", "down 1 0 0 ! FULL", "struck 0 5 = 1", "struck 1 5 = 0",
                "told 4 = 20", "clock 0 0 1 = 1");
    }

    private static void about() {
        runs.sentence("Of a TANK: 0 x, 1 y, 2 how many HITS, 3 how many are not looked at (DOWN), 4 in how many EVENTS it has a "
                + "MEMBER. UNKNOWN; OUTSIDE.");
        runs.each(RICH, "about * 0", "UNKNOWN", "MIN -1 5 MAX");
        runs.each(RICH, "about 5 *", "UNKNOWN", "-1 5");
        runs.each(RICH, "about 4 *", "OUTSIDE", "MIN -1 5 MAX");
        runs.rows(RICH, "about 0 0 ! 0", "about 4 0 ! 100", "about 4 1 ! 100", "about 2 1 ! 10", "about 0 2 ! 4",
                "about 3 2 ! 3", "about 4 2 ! 2", "about 0 3 ! 0", "about 3 3 ! 1", "about 0 4 ! 2", "about 3 4 ! 2",
                "about 4 4 ! 0");
        runs.rows("tank -100 -1", "about 0 0 ! -100", "about 0 1 ! -1", "about 0 2 ! 0", "about 0 3 ! 0", "about 0 4 ! 0");
        runs.rows(ALONE + loaded(240) + "build", "about 0 2 = 240", "about 0 4 = 240", "down 0 0 20001 = 1",
                "about 0 3 = 240", "about 0 4 = 240", "build = 0", "about 0 4 = 0");
    }

    private static void struck() {
        runs.sentence("Of a HIT: 0 TANK, 1 TIME as it came, 2 TIME PUT RIGHT, 3 kind, 4 AMOUNT, 5 whether it is looked at (1, "
                + "0), 6 the EVENT of which it is a MEMBER (NONE). UNKNOWN; OUTSIDE.");
        runs.each(RICH, "struck * 0", "UNKNOWN", "MIN -1 13 240 MAX");
        runs.each(RICH, "struck 13 *", "UNKNOWN", "-1 7");
        runs.each(RICH, "struck 12 *", "OUTSIDE", "MIN -1 7 MAX");
        runs.rows(RICH, "struck 0 0 ! 0", "struck 12 0 ! 4", "struck 1 1 ! 1030", "struck 1 2 ! 1000", "struck 3 3 ! 3",
                "struck 3 4 ! 4080", "struck 9 5 ! 0", "struck 8 5 ! 1", "struck 3 6 ! 0", "struck 11 6 ! 1",
                "struck 4 6 ! NONE", "struck 9 6 ! NONE", "struck 12 6 ! NONE");
        runs.rows(ALONE + loaded(240) + "build", "struck 239 6 ! 239", "struck 0 6 ! 0", "struck 1 6 ! 24",
                "struck 240 6 ! UNKNOWN");
        // Of BUILDINGS only the latest one tells, however many there were.
        runs.rows(ALONE + "hit 0 5 20 -1; build; build; build", "struck 0 6 = 0", "down 0 5 6 = 1", "build = 0",
                "struck 0 6 ! NONE", "about 0 4 ! 0", "build = 0", "struck 0 6 ! NONE", "build = 0", "about 0 4 ! 0");
        runs.rows(ALONE + "hit 0 5 20 -1; build; build; down 0 5 6; build", "struck 0 6 ! NONE", "about 0 4 ! 0",
                "rule 2 1 = 1", "build = 0", "others = 0");
    }

    private static void exposure() {
        runs.sentence("EXPOSURE. LOST: OUTSIDE: from is not 0 .. 20000, to is not from .. 20001.");
        runs.each(RICH, "exposure * 20001", "LOST", "MIN -1 20001 20002 MAX");
        runs.each(RICH, "exposure -1 *", "LOST", "-1 0");
        runs.each(RICH, "exposure 500 *", "LOST", "MIN -1 0 499 20002 MAX");
        runs.each(RICH, "exposure 0 *", "LOST", "MIN -1 20002 MAX");
        runs.each(RICH, "exposure 20000 *", "LOST", "MIN 19999 20002 MAX");
        runs.rows(RICH, "exposure 0 0 ! 0", "exposure 0 1 ! 4", "exposure 1 2 ! 5", "exposure 500 500 ! 0",
                "exposure 20000 20000 ! 0", "exposure 20000 20001 ! 5", "exposure 0 20001 ! 100002",
                "exposure 8998 9002 ! 18", "exposure 8999 9001 ! 8");
    }

    private static void rule() {
        runs.sentence("A RULE (which 0 WINDOW, 1 REACH, 2 LEAST, 3 MARK) becomes v: what it was. UNKNOWN: which; OUTSIDE.");
        runs.each(RICH, "rule * 5", "UNKNOWN", "MIN -1 4 MAX");
        runs.each(RICH, "rule 4 *", "UNKNOWN", "MIN -1 0 MAX");
        runs.each(RICH, "rule 0 *", "OUTSIDE", "MIN 0 301 MAX");
        runs.each(RICH, "rule 1 *", "OUTSIDE", "MIN 0 301 MAX");
        runs.each(RICH, "rule 2 *", "OUTSIDE", "MIN 0 13 MAX");
        runs.each(RICH, "rule 3 *", "OUTSIDE", "MIN -1 4081 MAX");
        runs.rows(RICH, "rule 0 1 = 90", "rule 0 300 = 1", "rule 1 1 = 50", "rule 1 300 = 1", "rule 2 1 = 2", "rule 2 12 = 1",
                "rule 3 0 = 11", "rule 3 4080 = 0", "told 6 = 300", "told 7 = 300", "told 8 = 12", "told 9 = 4080",
                "rule 0 300 ! 300", "rule 3 4080 ! 4080");
    }

    private static void build() {
        runs.sentence("BUILDING: how many EVENTS.");
        runs.rows("", "build = 0", "told 5 = 1", "told 2 = 0", "build = 0", "told 5 = 2");
        runs.rows(ALONE, "build = 0", "hit 0 0 20 -1 = 0", "told 2 = 0", "build = 1", "down 0 0 1 = 1", "build = 0",
                "told 5 = 3");
        runs.rows(ALONE + loaded(240), "build = 240", "told 2 = 240", "event 239 0 = 1", "member 239 0 = 239",
                "event 240 0 ! UNKNOWN", "rule 2 2 = 1", "build = 0", "event 0 0 ! UNKNOWN", "others = 0");
        runs.rows(Runs.times(30, "tank # 0") + "; " + loaded(0) + "rule 0 300;" + Runs.times(10, "put 3 0 #; load 3 2 0 10"),
                "build = 1", "event 0 0 = 10", "event 0 3 = 40", "event 0 1 = 0", "rule 0 99 = 300", "build = 1",
                "event 0 3 = 10");
    }

    private static void others() {
        runs.sentence("How many EVENTS of the latest BUILDING are none of the one ahead of it: there is none with just the same "
                + "MEMBERS. STATE: fewer than two were.");
        runs.rows(THREE + EVENT, "others ! STATE", "build = 1", "others ! STATE", "without 0 ! 0", "others ! STATE", "build = 1",
                "others ! 0");
        runs.rows("", "build = 0", "others ! STATE", "build = 0", "others ! 0");
        String built = THREE + EVENT + "build; ";
        runs.rows(built + "hit 3 100 20 -1; build", "others ! 1", "build = 1", "others ! 0", "down 3 0 20001 = 1", "build = 1",
                "others ! 1");
        runs.rows(built + "hit 2 99 20 -1; build", "others ! 1");
        runs.rows(built + "hit 2 100 20 -1; build", "event 0 3 = 4", "others ! 0");
        runs.rows(built + "clock 0 0 50; build", "event 0 1 = 50", "others ! 0");
        runs.rows(built + "rule 2 12; build", "others ! 0", "rule 2 3 = 12", "build = 1", "others ! 1");
        runs.rows(built + "hit 0 300 20 -1; hit 1 300 20 -1; hit 2 300 20 -1; build", "told 2 = 2", "others ! 1",
                "rule 0 200 = 100", "build = 1", "event 0 3 = 6", "member 0 0 = 0", "others ! 0", "rule 0 199 = 200",
                "build = 2", "others ! 1");
        runs.rows("tank 0 0; tank 1 0; tank 50 0; tank 51 0; rule 2 2; " + Runs.times(4, "hit # 100 20 -1") + "; build",
                "rule 1 48 = 60", "build = 2", "others ! 2", "rule 1 49 = 48", "build = 1", "others ! 1");
    }

    private static void isOther() {
        runs.sentence("Whether an EVENT is one of these: 1, 0. UNKNOWN; STATE.");
        runs.each(RICH, "isOther *", "UNKNOWN", "MIN -1 2 240 MAX");
        runs.rows(RICH, "isOther 0 ! 0", "isOther 1 ! 1", "others ! 1");
        runs.rows(THREE + EVENT, "isOther 0 ! UNKNOWN", "build = 1", "isOther -1 ! UNKNOWN", "isOther 1 ! UNKNOWN",
                "isOther 0 ! STATE", "build = 1", "isOther 1 ! UNKNOWN", "isOther 0 ! 0");
        runs.rows(THREE + EVENT + "build; hit 0 0 20 -1; hit 1 0 20 -1; hit 2 0 20 -1; rule 0 99; build", "isOther 0 ! 1",
                "isOther 1 ! 0", "isOther 2 ! UNKNOWN");
    }

    private static void without() {
        runs.sentence("How many EVENTS a BUILDING as the RULES are now would make without a TANK (as if it was DOWN always). "
                + "UNKNOWN.");
        runs.each(RICH, "without *", "UNKNOWN", "MIN -1 5 30 MAX");
        runs.rows(RICH, "without 0 ! 2", "without 3 ! 2", "without 4 ! 2", "rule 2 4 = 2", "without 0 ! 0", "without 4 ! 2",
                "rule 2 3 = 4", "without 0 ! 2", "told 5 = 2");
        runs.rows(ONE, "without 0 ! 0");
        runs.rows(ALONE + "hit 0 5 20 -1", "without 0 ! 0", "build = 1", "without 0 ! 0");
        runs.rows("tank 0 0; tank 50 0; tank 100 0; rule 2 1; hit 0 100 20 -1; hit 1 100 20 -1; hit 2 100 20 -1",
                "without 1 ! 2", "without 0 ! 1", "down 2 0 20001 = 1", "without 1 ! 1", "without 2 ! 1");
        runs.rows(THREE + EVENT, "without 3 ! 1", "without 2 ! 0", "rule 2 2 = 3", "without 2 ! 1", "rule 3 20 = 10",
                "without 2 ! 1", "rule 3 21 = 20", "without 2 ! 0");
    }

    private static void event() {
        runs.sentence("Of an EVENT: 0 how many MEMBERS, 1 the least TIME PUT RIGHT of its MEMBERS, 2 the greatest, 3 how many "
                + "HITS its GROUP has, 4 whether SIZE is SURE (1, 0). UNKNOWN; OUTSIDE.");
        runs.each(RICH, "event * 0", "UNKNOWN", "MIN -1 2 240 MAX");
        runs.each(RICH, "event 2 *", "UNKNOWN", "-1 5");
        runs.each(RICH, "event 1 *", "OUTSIDE", "MIN -1 5 MAX");
        runs.rows(RICH, "event 0 0 ! 4", "event 0 1 ! 1000", "event 0 2 ! 1045", "event 0 3 ! 5", "event 0 4 ! 0",
                "event 1 0 ! 4", "event 1 1 ! 4970", "event 1 2 ! 5010", "event 1 3 ! 4", "event 1 4 ! 1");
        runs.rows(ALONE + "hit 0 0 20 -1; hit 0 20000 20 -1; clock 0 0 500; clock 0 1 -500; build", "event 0 1 ! -500",
                "event 0 2 ! -500", "event 1 1 ! 20500", "event 1 2 ! 20500", "event 1 0 ! 1", "event 1 3 ! 1");
    }

    private static void member() {
        runs.sentence("MEMBER i of an EVENT, by TANKS, rising: its HIT. UNKNOWN.");
        runs.each(RICH, "member * 0", "UNKNOWN", "MIN -1 2 240 MAX");
        runs.each(RICH, "member 0 *", "UNKNOWN", "MIN -1 4 30 MAX");
        runs.each(RICH, "member 1 *", "UNKNOWN", "MIN -1 4 30 MAX");
        runs.rows(RICH, Runs.times(4, "member 0 # ! #"), "member 1 0 ! 6", "member 1 1 ! 7", "member 1 2 ! 8",
                "member 1 3 ! 11");
        runs.rows(THREE + "hit 3 100 20 -1; hit 2 101 20 -1; hit 1 102 20 -1; hit 0 103 20 -1; build", "member 0 0 ! 3",
                "member 0 1 ! 2", "member 0 2 ! 1", "member 0 3 ! 0", "member 0 4 ! UNKNOWN");
    }

    private static void front() {
        runs.sentence("Of a FRONT: 0 D, 1 C, 2 U, 3 V. LOST: UNKNOWN, OUTSIDE; what is 1 to 3 and there is no FRONT.");
        runs.each(RICH, "front * 0", "LOST", "MIN -1 2 240 MAX");
        runs.each(RICH, "front 1 *", "LOST", "MIN -1 4 MAX");
        runs.rows(RICH, "front 0 0 ! 40000", "front 0 1 ! -300000", "front 0 2 ! 60000", "front 0 3 ! 120000",
                "front 1 0 ! 40000", "front 1 1 ! 800000", "front 1 2 ! -40000", "front 1 3 ! 80000");
        runs.rows(ALONE + "hit 0 5 20 -1; build", "front 0 -1 ! LOST", "front 0 0 ! 0", "front 0 1 ! LOST", "front 0 2 ! LOST",
                "front 0 3 ! LOST", "front 0 4 ! LOST", "front 1 0 ! LOST");
    }

    private static void error() {
        runs.sentence("The ERROR of MEMBER i. LOST: UNKNOWN; there is no FRONT.");
        runs.each(RICH, "error * 0", "LOST", "MIN -1 2 240 MAX");
        runs.each(RICH, "error 0 *", "LOST", "MIN -1 4 30 MAX");
        runs.each(RICH, "error 1 *", "LOST", "MIN -1 4 30 MAX");
        runs.rows(RICH, "error 0 0 ! 300000", "error 0 1 ! -300000", "error 0 2 ! -300000", "error 0 3 ! 300000",
                "error 1 0 ! 400000", "error 1 1 ! -400000", "error 1 2 ! -400000", "error 1 3 ! 400000");
        runs.rows(ALONE + "hit 0 5 20 -1; build", "error 0 -1 ! LOST", "error 0 0 ! LOST", "error 0 1 ! LOST",
                "error 1 0 ! LOST");
    }

    private static void worst() {
        runs.sentence("THE WORST MEMBER (as member() numbers them). UNKNOWN; NONE: there is no FRONT.");
        runs.each(RICH, "worst *", "UNKNOWN", "MIN -1 2 240 MAX");
        runs.rows(RICH, "worst 0 ! 0", "worst 1 ! 0");
        runs.rows(ALONE + "hit 0 5 20 -1; build", "worst 0 ! NONE", "worst 1 ! UNKNOWN");
        runs.rows("tank 90 90; tank -1 0; tank 1 0; tank 0 -1; tank 0 1; tank 0 0; " + Runs.times(5, "hit # 100 20 -1")
                + "; hit 5 90 20 -1; build", "event 0 0 = 5", "worst 0 ! 4", "member 0 4 = 5");
    }

    private static void core() {
        runs.sentence("Of CORE: 0 the sum for x, 1 for y, 2 the sum of AMOUNTS (SIZE). LOST: UNKNOWN, OUTSIDE.");
        runs.each(RICH, "core * 0", "LOST", "MIN -1 2 240 MAX");
        runs.each(RICH, "core 1 *", "LOST", "MIN -1 3 MAX");
        runs.rows(RICH, "core 0 0 ! 41280", "core 0 1 ! 43350", "core 0 2 ! 4403", "core 1 0 ! 400", "core 1 1 ! 400",
                "core 1 2 ! 80");
    }

    private static void sheet() {
        runs.sentence("A SHEET gets a new row: 1. UNKNOWN; OUTSIDE: lane, n above 40; SIZE.");
        runs.each(RICH, "sheet * 0 1", "UNKNOWN", "MIN -1 4 MAX");
        runs.each(RICH, "sheet 4 * -1", "UNKNOWN", "-1 3");
        runs.each(RICH, "sheet 4 * 41", "UNKNOWN", "0 3");
        for (int k = 0; k < 4; k++) {
            runs.each(RICH, "sheet " + k + " * 1", "OUTSIDE", "MIN -1 3 MAX");
            runs.each(RICH, "sheet " + k + " * -1", "OUTSIDE", "MIN -1 3 MAX");
            runs.each(RICH, "sheet " + k + " 0 *", "OUTSIDE", "41 MAX");
            runs.each(RICH, "sheet " + k + " 2 *", "SIZE", "MIN -2 -1");
        }
        runs.rows(RICH, "sheet 0 0 8 = 1", "at 0 0 0 = 0", "at 0 7 0 = 0", "at 0 8 0 ! LOST INDEX", "sheet 1 2 40 = 1",
                "at 1 1 1 ! LOST CAST", "at 1 1 2 = 0", "at 1 39 2 = 0", "at 1 40 2 ! LOST INDEX", "sheet 2 1 0 = 1",
                "at 2 0 1 ! LOST INDEX", "sheet 3 0 1 = 1", "at 3 0 0 = 0", "at 0 7 0 = 0");
        runs.rows(RICH + "sheet 3 0 1; put 3 0 5", "sheet 0 0 40 = 1", "at 3 0 0 = 5", "at 1 1 1 = 6000");
    }

    private static void drop() {
        runs.sentence("A SHEET has nothing: 1; 0: it had nothing. UNKNOWN.");
        runs.each(RICH, "drop *", "UNKNOWN", "MIN -1 4 MAX");
        runs.rows(RICH, "drop 3 ! 0", "drop 0 = 1", "drop 0 ! 0", "at 0 0 0 ! LOST NULL", "put 0 0 1 ! NULL",
                "load 0 1 0 0 ! NULL", "drop 2 = 1", "at 2 0 2 ! LOST NULL", "at 1 1 1 = 6000", "sheet 0 0 8 = 1",
                "at 0 0 0 = 0", "at 0 7 0 = 0");
    }

    private static void put() {
        runs.sentence("Cell i of a SHEET becomes v: 1. UNKNOWN; NULL; INDEX.");
        runs.each(RICH, "put * 0 9", "UNKNOWN", "MIN -1 4 MAX");
        runs.each(RICH, "put 4 * 9", "UNKNOWN", "-1 40");
        runs.each(RICH, "put 3 * 9", "NULL", "MIN -1 0 40 MAX");
        runs.each(RICH, "put 0 * 9", "INDEX", "MIN -1 8 39 40 MAX");
        runs.each(RICH, "put 1 * 9", "INDEX", "MIN -1 12 MAX");
        runs.each(RICH, "put 2 * 9", "INDEX", "MIN -1 0 1 MAX");
        runs.rows(RICH, "put 0 0 9 = 1", "put 0 7 10 = 1", "at 0 0 0 = 9", "at 0 7 0 = 10", "at 0 1 0 = 0", "at 1 0 1 = 0",
                "put 1 11 32768 = 1", "at 1 11 1 = -32768", "put 0 7 10 ! 1");
        runs.rows(Runs.times(4, "sheet # 2 40"), Runs.times(4, "put # 39 7# = 1; put # 0 8# = 1"),
                Runs.times(4, "at # 39 2 = 7#; at # 0 2 = 8#; at # 38 2 = 0; at # 1 2 = 0; put # 40 1 ! INDEX"));
    }

    private static void at() {
        runs.sentence("Cell i of what a SHEET has, taken as a row of a LANE. LOST: UNKNOWN, OUTSIDE: lane; FAULTS CAST (nothing "
                + "is no CAST), NULL, INDEX.");
        runs.each(RICH, "at * 0 0", "LOST", "MIN -1 4 MAX");
        runs.each(RICH, "at 0 0 *", "LOST", "MIN -1 3 MAX");
        runs.each(RICH, "at 3 0 *", "LOST", "MIN -1 3 MAX");
        runs.each(RICH, "at 0 * 1", "LOST CAST", "MIN -1 0 7 8 MAX");
        runs.each(RICH, "at 0 * 2", "LOST CAST", "-1 0 8");
        runs.each(RICH, "at 1 * 0", "LOST CAST", "-1 0 12");
        runs.each(RICH, "at 1 * 2", "LOST CAST", "-1 0 12");
        runs.each(RICH, "at 2 * 0", "LOST CAST", "-1 0");
        runs.each(RICH, "at 2 * 1", "LOST CAST", "-1 0");
        runs.each(RICH, "at 3 0 *", "LOST NULL", "0 1 2");
        runs.each(RICH, "at 3 * 2", "LOST NULL", "MIN -1 40 MAX");
        runs.each(RICH, "at 0 * 0", "LOST INDEX", "MIN -1 8 39 40 MAX");
        runs.each(RICH, "at 1 * 1", "LOST INDEX", "MIN -1 12 MAX");
        runs.each(RICH, "at 2 * 2", "LOST INDEX", "MIN -1 0 MAX");
        runs.rows(RICH, "at 0 0 0 ! 1", "at 0 7 0 ! -1", "at 1 0 1 ! 0", "at 1 11 1 ! -1", "at 1 9 1 ! 6002");
    }

    private static void tell() {
        runs.sentence("`int tell(int hit)`: TELLING of a HIT. UNKNOWN.");
        runs.each(RICH, "tell *", "UNKNOWN", "MIN -1 13 240 MAX");
        runs.rows(RICH, "trace = 1958", "tell 0 = 20", "trace = 60699", "tell 12 = 50", "tell 13 ! UNKNOWN",
                "trace = 1881670");
    }

    private static void weigh() {
        runs.sentence("What it is WEIGHED. UNKNOWN.");
        runs.each(RICH, "weigh *", "UNKNOWN", "MIN -1 13 240 MAX");
        runs.rows(RICH, "weigh 0 = 20", "trace = 60702", "weigh 12 = 50", "weigh 13 ! UNKNOWN", "trace = 1881766");
    }

    private static void as() {
        runs.sentence("A HIT, taken as 0 PLAIN, 1 STEEP, 2 OVER, 3 BRIM: 1. UNKNOWN; OUTSIDE; CAST (all are PLAIN, BRIM is OVER, "
                + "too).");
        runs.each(RICH, "as * 0", "UNKNOWN", "MIN -1 13 240 MAX");
        runs.each(RICH, "as 13 *", "UNKNOWN", "-1 4");
        String[] answers = {"1 CAST CAST CAST", "1 1 CAST CAST", "1 CAST 1 CAST", "1 CAST 1 1"};
        for (int h = 0; h < 4; h++) {
            runs.each(RICH, "as " + h + " *", "OUTSIDE", "MIN -1 4 MAX");
            for (int kind = 0; kind < 4; kind++) {
                runs.rows(RICH, "as " + h + " " + kind + " ! " + answers[h].split(" ")[kind]);
            }
        }
        runs.rows(RICH, "as 12 0 ! 1", "as 12 1 ! CAST");
    }

    private static void trace() {
        runs.sentence("`int trace()`: TRACE.");
        runs.rows("", "trace ! 0");
        runs.rows(KINDS + "rule 2 1; sheet 0 0 1", "tell 3 = 246", "trace ! 94", "struck 1 4 ! 48", "as 3 2 ! 1",
                "build = 4", "core 0 2 ! 77", "event 0 4 ! 1", "without 0 ! 0", "trace ! 94", "tell 4 ! UNKNOWN",
                "weigh -1 ! UNKNOWN", "trace ! 94");
    }

    private static void fault() {
        runs.sentence("The FAULT of the latest call that names one: 0: it came to none, or was refused (0 ahead of any).");
        runs.rows("", "fault ! 0");
        String scene = KINDS + cells(0, 0, "0 9 9 -1") + cells(2, 1, "7 0 0 -1 0 0 256 -1");
        for (String call : CAME_TO_NONE) {
            runs.rows(scene, "put 0 4 0 = INDEX", call, "fault = 0", "fault = 0");
        }
        for (String call : CAME_TO_ONE) {
            runs.rows(scene, call, "sheet 1 0 -1 = SIZE", call);
            String left = call.substring(call.lastIndexOf("fault"));
            for (String other : NAME_NONE) {
                runs.rows(scene, call, other, left);
            }
        }
        runs.rows(ONE + loaded(240), "put 3 40 0 = INDEX", "load 3 2 0 1 = FULL", "fault = 0");
    }

    private static void told() {
        runs.sentence("How many: 0 TANKS, 1 HITS, 2 EVENTS, 3 CLOCKS, 4 DOWNS, 5 BUILDINGS; 6 .. 9 the RULES. OUTSIDE.");
        runs.each(RICH, "told *", "OUTSIDE", "MIN -1 10 MAX");
        runs.rows(RICH, "told 0 ! 5", "told 1 ! 13", "told 2 ! 2", "told 3 ! 1", "told 4 ! 2", "told 5 ! 2", "told 6 ! 90",
                "told 7 ! 50", "told 8 ! 2", "told 9 ! 11");
        runs.rows(ALONE + loaded(240) + "build", "told 1 = 240", "told 2 = 240", Runs.times(300, "build = 240"), "told 5 = 301");
    }
}
