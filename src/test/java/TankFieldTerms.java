import java.io.IOException;
import java.math.BigInteger;
import java.util.ArrayList;
import java.util.List;

/** Each sentence of the document's 'Terms' that names a boundary, with a test of its own on both sides of it. */
public final class TankFieldTerms {
    private static final String NEIGHBOURS = "tank 0 0; tank 1 0; rule 2 2; ";
    private static final String ONE = "tank 0 0; ";
    private static final String ALONE = "tank 0 0; rule 2 1; ";
    /** D is 1 for the first three of these, and 4 for all. */
    private static final String SQUARE = "tank 0 0; tank 1 0; tank 0 1; tank 1 1; ";
    /** Hits 0 PLAIN, 1 STEEP, 2 OVER, 3 BRIM. */
    private static final String KINDS = "tank 0 0; hit 0 1 77 -1; hit 0 2 255 3; hit 0 3 255 -1; hit 0 4 255 255; ";

    private static Runs runs;

    public static void main(String[] args) throws IOException {
        runs = new Runs();
        calls();
        refusals();
        faults();
        tanks();
        hits();
        kinds();
        clocks();
        downs();
        window();
        reach();
        least();
        mark();
        near();
        members();
        order();
        unchanged();
        fronts();
        errors();
        cores();
        exposure();
        sheets();
        telling();
        runs.close();
    }

    private static void calls() {
        runs.sentence("An object is used for at most 512 calls after it has been made");
        runs.rows(KINDS, "tell 1 = 303", Runs.times(505, "build = 0"), "told 5 = 505");
        runs.rows(ALONE + "hit 0 5 20 -1", Runs.times(508, "build = 1"), "others = 0");
    }

    private static void refusals() {
        runs.sentence("REFUSALS, the first of these that fits: UNKNOWN (there is no such SHEET, TANK, HIT, EVENT, place), "
                + "OUTSIDE (another number is not as told), STATE (as told), FULL");
        String full = Runs.times(30, "tank # 0") + "; hit 0 0 1 -1; " + Runs.times(20, "clock 0 # 1") + "; "
                + Runs.times(20, "down 1 # 20001") + "; sheet 0 2 4; rule 2 1; rule 3 1; build";
        runs.rows(full, "tank 101 0 ! OUTSIDE", "tank 0 0 ! FULL", "hit 30 20001 256 256 ! UNKNOWN",
                "clock 30 20001 501 ! UNKNOWN", "clock 0 20001 501 ! OUTSIDE", "clock 0 20000 500 ! FULL",
                "down 30 20001 20002 ! UNKNOWN", "down 0 20001 20002 ! OUTSIDE", "down 0 20000 20001 ! FULL",
                "isOther 1 ! UNKNOWN", "isOther 0 ! STATE", "about 30 5 ! UNKNOWN", "struck 1 7 ! UNKNOWN",
                "rule 4 0 ! UNKNOWN", "event 1 5 ! UNKNOWN", "sheet 4 3 41 ! UNKNOWN", "as 1 4 ! UNKNOWN");

        runs.sentence("they change nothing (but fault(), of a call that names FAULTS)");
        runs.rows("", "put 0 0 0 = NULL", "fault = 1", "tank 101 0 ! OUTSIDE", "hit 0 0 0 0 ! UNKNOWN",
                "clock 0 0 0 ! UNKNOWN", "down 0 0 0 ! UNKNOWN", "rule 0 0 ! OUTSIDE", "drop 4 ! UNKNOWN",
                "others ! STATE", "exposure 1 0 ! LOST", "tell 0 ! UNKNOWN", "weigh 0 ! UNKNOWN", "told 10 ! OUTSIDE",
                "fault = 1", "put 4 0 0 ! UNKNOWN", "fault = 0");
    }

    private static void faults() {
        runs.sentence("Of a call the first that is come to, in the order told");
        runs.rows(ONE + "sheet 0 1 4", "load 0 0 -1 -1 ! CAST", "load 1 0 -1 -1 ! NULL", "load 0 1 -1 -1 ! SIZE",
                "load 0 1 -1 1 ! INDEX", "put 1 -1 0 ! NULL", "put 0 -1 0 ! INDEX", "at 0 4 0 ! LOST CAST",
                "at 1 4 0 ! LOST NULL", "at 0 4 1 ! LOST INDEX");

        runs.sentence("it answers -10 less it (LOST, where a long is answered, as for refusals) and changes nothing; "
                + "fault() tells it");
        runs.rows(KINDS + "sheet 0 1 4; put 0 3 5", "put 1 0 0 ! -11", "put 1 0 0 = -11", "fault = 1",
                "as 0 1 ! -12", "as 0 1 = -12", "fault = 2", "put 0 4 0 ! -13", "put 0 4 0 = -13", "fault = 3",
                "sheet 0 0 -1 ! -14", "sheet 0 0 -1 = -14", "fault = 4", "at 1 0 0 = LOST", "fault = 1",
                "at 0 0 0 = LOST", "fault = 2", "at 0 4 1 = LOST", "fault = 3", "at 4 0 0 = LOST", "fault = 0",
                "at 0 3 1 = 5");

        runs.sentence("NONE is -9.");
        runs.rows(ALONE + "hit 0 0 10 -1; build; hit 0 0 9 -1; build", "struck 0 6 = 0", "struck 1 6 ! -9", "worst 0 ! -9");
    }

    private static void tanks() {
        runs.sentence("TANKS, 30 ever, numbered as they come");
        runs.rows("", Runs.times(30, "tank # 0 = #"), "tank 0 0 ! FULL", "tank 50 0 ! FULL", "told 0 = 30",
                "about 0 0 = 0", "about 29 0 = 29", "about 30 0 ! UNKNOWN");

        runs.sentence("each at x, y (-100 .. 100)");
        runs.rows("", "tank -101 0 ! OUTSIDE", "tank 101 0 ! OUTSIDE", "tank 0 -101 ! OUTSIDE", "tank 0 101 ! OUTSIDE",
                "tank -100 7 = 0", "tank 100 8 = 1", "tank 9 -100 = 2", "tank 10 100 = 3", "about 0 0 = -100",
                "about 1 0 = 100", "about 2 1 = -100", "about 3 1 = 100", "told 0 = 4");
        runs.each(ONE, "tank * 0", "OUTSIDE", "MIN -101 101 MAX");
        runs.each(ONE, "tank 0 *", "OUTSIDE", "MIN -101 101 MAX");
    }

    private static void hits() {
        runs.sentence("HITS, 240 ever, numbered as they come");
        runs.rows(ONE, Runs.times(240, "hit 0 # 20 -1 = #"), "hit 0 0 20 -1 ! FULL", "told 1 = 240", "struck 0 1 = 0",
                "struck 239 1 = 239", "struck 240 1 ! UNKNOWN");

        runs.sentence("of a TANK, at a TIME (0 .. 20000)");
        runs.rows(ONE, "hit 0 0 20 -1 = 0", "hit 0 20000 20 -1 = 1", "struck 0 1 = 0", "struck 1 1 = 20000");
        runs.each(ONE, "hit 0 * 20 -1", "OUTSIDE", "MIN -1 20001 MAX");
        runs.each(ONE, "hit * 0 20 -1", "UNKNOWN", "MIN -1 1 29 30 MAX");

        runs.sentence("with a LOW (0 .. 255)");
        runs.rows(ONE, "hit 0 5 0 -1 = 0", "hit 0 5 255 -1 = 1", "struck 0 4 = 0", "struck 1 4 = 255");
        runs.each(ONE, "hit 0 5 * -1", "OUTSIDE", "MIN -1 256 MAX");
        runs.each(ONE, "hit 0 5 * 0", "OUTSIDE", "MIN -1 256 MAX");

        runs.sentence("and a HIGH (0 .. 255; or none)");
        runs.rows(ONE, "hit 0 5 255 0 = 0", "hit 0 5 255 255 = 1", "hit 0 5 255 -1 = 2", "struck 0 4 = 0",
                "struck 1 4 = 4080", "struck 2 4 = 255");
        runs.each(ONE, "hit 0 5 255 *", "OUTSIDE", "MIN -2 256 MAX");
    }

    private static void kinds() {
        runs.sentence("Of kind 0 PLAIN: LOW below 255: its AMOUNT is that.");
        runs.rows(ONE + "hit 0 5 0 -1; hit 0 5 254 -1; hit 0 5 255 -1", "struck 0 3 = 0", "struck 0 4 = 0",
                "struck 1 3 = 0", "struck 1 4 = 254", "struck 2 3 = 2");

        runs.sentence("1 STEEP: LOW 255, HIGH below 255: 16 times HIGH.");
        runs.rows(ONE + "hit 0 5 255 0; hit 0 5 255 1; hit 0 5 255 254; hit 0 5 255 255", "struck 0 3 = 1", "struck 0 4 = 0",
                "struck 1 3 = 1", "struck 1 4 = 16", "struck 2 3 = 1", "struck 2 4 = 4064", "struck 3 3 = 3");

        runs.sentence("2 OVER: LOW 255, no HIGH: 255, a bound only.");
        runs.rows(ALONE + "hit 0 5 255 -1; build", "struck 0 3 = 2", "struck 0 4 = 255", "event 0 4 = 0", "core 0 2 = 255");

        runs.sentence("3 BRIM: both 255: 4080, a bound only.");
        runs.rows(ALONE + "hit 0 5 255 255; build", "struck 0 3 = 3", "struck 0 4 = 4080", "event 0 4 = 0",
                "core 0 2 = 4080");
    }

    private static void clocks() {
        runs.sentence("from a TIME on a TANK's clock is FAST by so many (-500 .. 500)");
        runs.rows(ONE + "hit 0 0 20 -1; hit 0 20000 20 -1", "clock 0 0 500 = 1", "struck 0 2 = -500",
                "clock 0 20000 -500 = 2", "struck 1 2 = 20500", "struck 0 2 = -500", "clock 0 0 0 = 3", "struck 0 2 = 0",
                "struck 1 2 = 20000");
        runs.each(ONE + "hit 0 0 20 -1", "clock 0 0 *", "OUTSIDE", "MIN -501 501 MAX");
        runs.each(ONE + "hit 0 0 20 -1", "clock 0 * 1", "OUTSIDE", "MIN -1 20001 MAX");

        runs.sentence("its HITS from then on (by TIMES as they came) happened that much EARLIER: their TIMES PUT RIGHT are so "
                + "much less");
        runs.rows(ONE + "tank 1 0; hit 0 399 20 -1; hit 0 400 20 -1; hit 0 401 20 -1; hit 1 400 20 -1; clock 0 400 30",
                "struck 0 2 = 399", "struck 1 2 = 370", "struck 2 2 = 371", "struck 3 2 = 400", "struck 1 1 = 400");
        // What one CLOCK makes of a TIME is nothing to another's.
        runs.rows(ONE + "hit 0 450 20 -1; hit 0 100 20 -1; clock 0 420 500; clock 0 0 -500; clock 0 430 7",
                "struck 0 2 = 443", "struck 1 2 = 600");
        runs.rows(ONE + "hit 0 19999 20 -1; hit 0 20000 20 -1; clock 0 20000 1", "struck 0 2 = 19999", "struck 1 2 = 19999",
                "hit 0 20000 20 -1 = 2", "struck 2 2 = 19999");

        runs.sentence("of several the latest one told whose TIME is not behind the HIT's goes");
        String hits = ONE + "tank 1 0; hit 0 99 20 -1; hit 0 100 20 -1; hit 0 200 20 -1; hit 0 299 20 -1; hit 0 300 20 -1; ";
        runs.rows(hits + "clock 0 200 5; clock 0 100 9; clock 0 300 11", "struck 0 2 = 99", "struck 1 2 = 91",
                "struck 2 2 = 191", "struck 3 2 = 290", "struck 4 2 = 289");
        runs.rows(hits + "clock 0 300 11; clock 0 200 5; clock 0 100 9", "struck 0 2 = 99", "struck 1 2 = 91",
                "struck 2 2 = 191", "struck 3 2 = 290", "struck 4 2 = 291");
        runs.rows(hits + "clock 0 100 9; clock 0 200 5; clock 0 300 11", "struck 1 2 = 91", "struck 2 2 = 195",
                "struck 3 2 = 294", "struck 4 2 = 289");
        runs.rows(hits + "clock 0 200 5; clock 0 200 6; clock 1 200 7", "struck 1 2 = 100", "struck 2 2 = 194");
    }

    private static void downs() {
        runs.sentence("a TANK is DOWN from a TIME up to ahead of another one (by TIMES as they came)");
        String hits = ONE + "tank 1 0; hit 0 99 20 -1; hit 0 100 20 -1; hit 0 199 20 -1; hit 0 200 20 -1; hit 1 150 20 -1; ";
        runs.rows(hits + "down 0 100 200", "struck 0 5 = 1", "struck 1 5 = 0", "struck 2 5 = 0", "struck 3 5 = 1",
                "struck 4 5 = 1", "about 0 3 = 2", "about 1 3 = 0");
        runs.rows(hits + "down 0 100 200; clock 0 0 50", "struck 0 5 = 1", "struck 1 5 = 0", "struck 2 5 = 0",
                "struck 3 5 = 1");
        runs.rows(hits + "down 0 100 100", "struck 1 5 = 1", "down 0 100 101 = 2", "struck 1 5 = 0", "struck 2 5 = 1");
        runs.rows(ONE + "hit 0 0 20 -1; hit 0 20000 20 -1", "down 0 0 20000 = 1", "struck 0 5 = 0", "struck 1 5 = 1",
                "down 0 0 20001 = 2", "struck 1 5 = 0");
        runs.rows(ONE + "hit 0 0 20 -1; hit 0 20000 20 -1; hit 0 19999 20 -1", "down 0 20000 20001 = 1", "struck 0 5 = 1",
                "struck 1 5 = 0", "struck 2 5 = 1", "down 0 0 1 = 2", "struck 0 5 = 0");

        runs.sentence("its HITS then are not looked at");
        runs.rows(ALONE + "hit 0 99 20 -1; hit 0 100 20 -1; down 0 100 101", "build = 1", "member 0 0 = 0",
                "struck 1 6 = NONE");
    }

    private static void window() {
        runs.sentence("WINDOW w (1 .. 300; 100 at first)");
        runs.rows("", "told 6 = 100", "rule 0 1 = 100", "told 6 = 1", "rule 0 300 = 1", "told 6 = 300");
        runs.each("rule 0 7", "rule 0 *", "OUTSIDE", "MIN -1 0 301 MAX");

        runs.sentence("if their TIMES PUT RIGHT are w at most apart");
        int[] windows = {1, 2, 100, 299, 300};
        for (int w : windows) {
            String first = NEIGHBOURS + "rule 0 " + w + "; hit 0 1000 20 -1; ";
            runs.rows(first + "hit 1 " + (1000 + w) + " 20 -1", "build = 1", "event 0 1 = 1000");
            runs.rows(first + "hit 1 " + (1001 + w) + " 20 -1", "build = 0");
            runs.rows(first + "hit 1 " + (1000 - w) + " 20 -1", "build = 1", "event 0 2 = 1000");
            runs.rows(first + "hit 1 " + (999 - w) + " 20 -1", "build = 0");
        }
        runs.rows(NEIGHBOURS + "rule 0 1; hit 0 500 20 -1; hit 1 1000 20 -1", "clock 1 0 498 = 1", "build = 0",
                "clock 1 0 499 = 2", "build = 1", "clock 1 0 500 = 3", "build = 1", "clock 0 0 -1 = 4", "build = 1",
                "clock 0 0 -2 = 5", "build = 0");
        runs.rows(NEIGHBOURS + "rule 0 300; hit 0 0 20 -1; hit 1 200 20 -1", "clock 0 0 100 = 1", "build = 1",
                "event 0 1 = -100", "clock 0 0 101 = 2", "build = 0");
    }

    private static void reach() {
        runs.sentence("REACH r (1 .. 300; 60)");
        runs.rows("", "told 7 = 60", "rule 1 1 = 60", "told 7 = 1", "rule 1 300 = 1", "told 7 = 300");
        runs.each("rule 1 7", "rule 1 *", "OUTSIDE", "MIN -1 0 301 MAX");

        runs.sentence("and the TANKS r at most (by the square)");
        apart("0 0", "1 0", 1);
        apart("0 0", "0 -1", 1);
        apart("0 0", "1 1", 2);
        apart("0 0", "-2 1", 3);
        apart("-3 4", "0 0", 5);
        apart("-3 5", "0 0", 6);
        apart("5 5", "35 45", 50);
        apart("5 5", "36 45", 51);
        apart("-100 0", "100 0", 200);
        apart("-100 0", "100 1", 201);
        apart("-100 -100", "100 100", 283);
        apart("100 -100", "-100 100", 283);
        runs.rows("tank 7 7; tank 7 7; rule 2 2; rule 1 1; hit 0 100 20 -1; hit 1 100 20 -1", "build = 1");
        runs.rows("tank -100 -100; tank 100 100; rule 2 2; rule 1 300; hit 0 100 20 -1; hit 1 100 20 -1", "build = 1");
    }

    private static void apart(String one, String other, int reach) {
        String tanks = "tank " + one + "; tank " + other + "; rule 2 2; hit 0 100 20 -1; hit 1 100 20 -1; ";
        runs.rows(tanks + "rule 1 " + reach, "build = 1");
        if (reach > 1) {
            runs.rows(tanks + "rule 1 " + (reach - 1), "build = 0");
        }
    }

    private static void least() {
        runs.sentence("LEAST n (1 .. 12; 3)");
        runs.rows("", "told 8 = 3", "rule 2 1 = 3", "told 8 = 1", "rule 2 12 = 1", "told 8 = 12");
        runs.each("rule 2 7", "rule 2 *", "OUTSIDE", "MIN -1 0 13 MAX");

        runs.sentence("An EVENT is a GROUP with n TANKS or more");
        for (int n = 1; n <= 12; n++) {
            String tanks = Runs.times(n, "tank # 0") + "; " + Runs.times(n, "hit # 100 20 -1") + "; ";
            runs.rows(tanks + "rule 2 " + n, "build = 1", "event 0 0 = " + n);
            if (n < 12) {
                runs.rows(tanks + "rule 2 " + (n + 1), "build = 0", "told 2 = 0");
            }
        }
        runs.rows("tank 0 0; tank 1 0; hit 0 100 20 -1; hit 1 100 20 -1; hit 0 101 20 -1; hit 1 101 20 -1", "build = 0",
                "rule 2 2 = 3", "build = 1", "event 0 0 = 2", "event 0 3 = 4");
        runs.rows(Runs.times(30, "tank # 0") + "; " + Runs.times(30, "hit # 100 20 -1") + "; rule 2 12", "build = 1",
                "event 0 0 = 30", "member 0 29 = 29");
    }

    private static void mark() {
        runs.sentence("MARK m (0 .. 4080; 10)");
        runs.rows("", "told 9 = 10", "rule 3 0 = 10", "told 9 = 0", "rule 3 4080 = 0", "told 9 = 4080");
        runs.each("rule 3 7", "rule 3 *", "OUTSIDE", "MIN -1 4081 MAX");

        runs.sentence("HITS that are looked at, with an AMOUNT of m or more");
        marked("0 -1", 0);
        marked("1 -1", 1);
        marked("10 -1", 10);
        marked("254 -1", 254);
        marked("255 -1", 255);
        marked("255 0", 0);
        marked("255 1", 16);
        marked("255 254", 4064);
        marked("255 255", 4080);
        runs.rows(ALONE + "hit 0 5 9 -1", "build = 0", "without 0 = 0", "rule 3 9 = 10", "build = 1");
        runs.rows(ALONE + "hit 0 5 20 -1; down 0 5 6; rule 3 0", "build = 0");
    }

    private static void marked(String lowHigh, int amount) {
        String one = ALONE + "hit 0 5 " + lowHigh + "; ";
        runs.rows(one + "rule 3 " + amount, "build = 1");
        if (amount < 4080) {
            runs.rows(one + "rule 3 " + (amount + 1), "build = 0");
        }
    }

    private static void near() {
        runs.sentence("Two of them, of unlike TANKS, are NEAR");
        runs.rows(ALONE + "hit 0 100 20 -1; hit 0 100 20 -1; hit 0 101 20 -1", "build = 3", "event 0 3 = 1",
                "event 1 3 = 1", "event 2 3 = 1");
        runs.rows("tank 3 3; tank 3 3; rule 2 1; hit 0 100 20 -1; hit 1 100 20 -1", "build = 1", "event 0 3 = 2");

        runs.sentence("GROUPS: HITS that hang together by NEAR ones.");
        String line = "tank 0 0; tank 50 0; tank 100 0; rule 2 1; ";
        runs.rows(line + "hit 0 100 20 -1; hit 1 200 20 -1; hit 2 300 20 -1", "build = 1", "event 0 0 = 3",
                "down 1 0 20001 = 1", "build = 2");
        runs.rows(line + "hit 0 100 20 -1; hit 1 200 20 -1; hit 2 301 20 -1", "build = 2", "event 0 0 = 2",
                "event 1 0 = 1");
        runs.rows(line + "hit 0 100 20 -1; hit 2 100 20 -1; hit 1 200 20 -1", "build = 1", "event 0 0 = 3",
                "clock 1 0 -1 = 1", "build = 3");
        runs.rows(line + "hit 0 300 20 -1; hit 2 300 20 -1; hit 1 200 20 -1", "build = 1", "event 0 0 = 3",
                "clock 1 0 1 = 1", "build = 3");
        runs.rows("tank 0 0; tank 0 0; rule 0 1; rule 2 2; " + Runs.times(10, "hit 0 2# 20 -1; hit 1 2# 20 -1"), "build = 1",
                "event 0 3 = 20", "event 0 0 = 2", "event 0 1 = 20", "event 0 2 = 20");
    }

    private static void members() {
        runs.sentence("its MEMBERS are of each TANK the HIT with the least TIME PUT RIGHT (of like ones the least number)");
        String both = NEIGHBOURS + "hit 1 100 20 -1; ";
        runs.rows(both + "hit 0 104 20 -1; hit 0 103 20 -1; hit 0 103 20 -1; hit 0 105 20 -1", "build = 1", "member 0 0 = 2",
                "member 0 1 = 0", "member 0 2 ! UNKNOWN", "event 0 3 = 5", "struck 1 6 = NONE", "struck 2 6 = 0",
                "struck 3 6 = NONE", "clock 0 105 2 = 1", "build = 1", "member 0 0 = 2", "clock 0 105 3 = 2", "build = 1",
                "member 0 0 = 4");
        runs.rows(both + "hit 0 105 20 -1; hit 0 103 20 -1; clock 0 104 2", "build = 1", "member 0 0 = 1");
        runs.rows(both + "hit 0 99 9 -1; hit 0 100 10 -1", "build = 1", "member 0 0 = 2");
        runs.rows(both + "hit 0 0 20 -1; hit 0 1 20 -1; clock 0 0 -1", "build = 1", "member 0 0 = 1", "clock 0 0 0 = 2",
                "build = 1", "member 0 0 = 1", "rule 0 99 = 100", "build = 1", "member 0 0 = 2");
        // The third TANK hangs on the second alone, which comes later than all of its HITS, or earlier.
        String line = "tank 0 0; tank 50 0; tank 100 0; hit 1 200 20 -1; ";
        runs.rows(line + "hit 0 100 20 -1; hit 2 110 20 -1; hit 2 180 20 -1", "build = 1", "member 0 2 = 2", "event 0 3 = 4");
        runs.rows(line + "hit 0 100 20 -1; hit 2 180 20 -1; hit 2 110 20 -1; hit 2 110 20 -1", "build = 1", "member 0 2 = 3",
                "event 0 3 = 5");
        runs.rows(line + "hit 0 300 20 -1; hit 2 290 20 -1; hit 2 210 20 -1", "build = 1", "member 0 2 = 3", "event 0 3 = 4");
    }

    private static void order() {
        runs.sentence("EVENTS are in order of the least of these TIMES, of like ones of the least number of a MEMBER with that.");
        String tanks = "tank 90 90; tank 91 90; tank 0 0; tank 1 0; rule 2 2; ";
        runs.rows(tanks + "hit 0 501 20 -1; hit 1 502 20 -1; hit 2 600 20 -1; hit 3 500 20 -1", "build = 2", "event 0 1 = 500",
                "member 0 0 = 2", "event 1 1 = 501", "member 1 0 = 0");
        runs.rows(tanks + "hit 0 500 20 -1; hit 1 502 20 -1; hit 2 600 20 -1; hit 3 500 20 -1", "build = 2", "member 0 0 = 0",
                "member 1 0 = 2");
        runs.rows(tanks + "hit 0 501 20 -1; hit 2 500 20 -1; hit 1 500 20 -1; hit 3 501 20 -1", "build = 2", "member 0 0 = 1",
                "member 1 1 = 2");
        runs.rows(tanks + "hit 2 500 20 -1; hit 0 500 20 -1; hit 1 500 20 -1; hit 3 500 20 -1", "build = 2", "member 0 0 = 0",
                "member 1 0 = 1", "clock 2 0 -1 = 1", "build = 2", "member 0 0 = 1", "clock 3 0 1 = 2", "build = 2",
                "member 0 0 = 0");
        runs.rows(tanks + "hit 0 0 20 -1; hit 1 5 20 -1; hit 2 3 20 -1; hit 3 5 20 -1; clock 2 0 5", "build = 2",
                "event 0 1 = -2", "member 0 0 = 2", "event 1 1 = 0");
    }

    private static void unchanged() {
        runs.sentence("Without BUILDING there are none");
        runs.rows(ALONE + "hit 0 100 20 -1", "told 2 = 0", "event 0 0 ! UNKNOWN", "struck 0 6 ! NONE", "about 0 4 ! 0",
                "without 0 ! 0", "told 2 = 0", "build = 1", "told 2 = 1");

        runs.sentence("what is told to change behind it leaves them as they are");
        String built = SQUARE + "hit 0 100 20 -1; hit 1 104 255 7; hit 2 107 255 -1; sheet 0 2 4; put 0 1 90; put 0 2 50;"
                + "put 0 3 -1; build; ";
        String still = "; told 2 = 1; event 0 0 = 3; event 0 1 = 100; event 0 2 = 107; event 0 3 = 3; event 0 4 = 0;"
                + "member 0 0 = 0; member 0 1 = 1; member 0 2 = 2; member 0 3 = UNKNOWN; front 0 0 = 1; front 0 1 = 0;"
                + "front 0 2 = 4; front 0 3 = 7; error 0 0 = 0; error 0 1 = 0; error 0 2 = 0; worst 0 = 0; core 0 0 = 112;"
                + "core 0 1 = 255; core 0 2 = 387; struck 0 6 = 0; struck 1 6 = 0; struck 2 6 = 0; about 0 4 = 1; about 3 4 = 0";
        String[] changes = {"tank 0 0 = 4", "hit 0 90 20 -1 = 3", "hit 3 100 20 -1 = 3", "load 0 2 0 1 = 4",
            "clock 0 0 50 = 1", "clock 2 100 -500 = 1", "down 1 0 20001 = 1", "rule 0 1 = 100", "rule 1 1 = 60",
            "rule 2 12 = 3", "rule 3 4080 = 10", "without 0 = 0", "sheet 0 0 0 = 1", "drop 0 = 1"};
        for (String change : changes) {
            runs.rows(built, change + still);
        }
        runs.rows(built, String.join("; ", changes).replace("hit 3 100 20 -1 = 3", "hit 3 100 20 -1 = 4")
                .replace("load 0 2 0 1 = 4", "load 0 2 0 1 = 6").replace("clock 2 100 -500 = 1", "clock 2 100 -500 = 2") + still,
                "build = 0", "told 2 = 0", "event 0 0 ! UNKNOWN", "struck 0 6 ! NONE");
    }

    private static void fronts() {
        runs.sentence("there is no FRONT, if D is 0");
        noFront("0 0");
        noFront("0 0; tank 5 7");
        noFront("5 5; tank 5 5; tank 5 5");
        noFront("0 0; tank 7 0; tank 9 0");
        noFront("3 0; tank 3 7; tank 3 9");
        noFront("0 0; tank 7 7; tank 14 14");
        noFront("-7 3; tank 0 0; tank 7 -3; tank 7 -3");
        runs.rows(tanksStruckAt("0 0; tank 1 0; tank 0 1", 3), "build = 1", "front 0 0 = 1", "front 0 1 = 0",
                "front 0 2 = 1", "front 0 3 = 2", "error 0 0 = 0", "worst 0 = 0");
        runs.rows(tanksStruckAt("0 0; tank 7 7; tank 14 15", 3), "build = 1", "front 0 0 = 49", "front 0 1 = 0",
                "error 0 2 = 0");

        runs.sentence("TIMES PUT RIGHT, told from its least one on");
        runs.rows(SQUARE + "hit 0 105 20 -1; hit 1 103 20 -1; hit 2 100 20 -1", "build = 1", "front 0 0 = 1", "front 0 1 = 5",
                "front 0 2 = -2", "front 0 3 = -5", "clock 2 0 -100 = 1", "build = 1", "front 0 1 = 2", "front 0 2 = -2",
                "front 0 3 = 95");
        runs.rows(SQUARE + "hit 0 5 20 -1; hit 1 3 20 -1; hit 2 0 20 -1; clock 2 0 90", "build = 1", "front 0 1 = 95",
                "front 0 2 = -2", "front 0 3 = -95");
        greatestFront();
    }

    private static String tanksStruckAt(String places, int tanks) {
        return "tank " + places + "; rule 2 1; " + Runs.times(tanks, "hit # 10# 20 -1");
    }

    private static void noFront(String places) {
        int tanks = places.split(";").length;
        runs.rows(tanksStruckAt(places, tanks), "build = 1", "event 0 0 = " + tanks, "front 0 0 ! 0", "front 0 1 ! LOST",
                "front 0 2 ! LOST", "front 0 3 ! LOST", "error 0 0 ! LOST", "error 0 " + (tanks - 1) + " ! LOST",
                "worst 0 ! NONE", "core 0 2 = " + 20 * tanks);
    }

    /** All TANKS at the corners, with TIMES PUT RIGHT from -500 to 20500: about as great numbers as can come. */
    private static void greatestFront() {
        int[][] corners = {{-100, -100}, {100, 100}, {100, -100}, {-100, 100}};
        List<String> calls = new ArrayList<>(List.of("rule 0 300", "rule 1 300"));
        long[][] xyt = new long[30][];
        for (int t = 0; t < 30; t++) {
            int[] at = corners[t < 2 ? 0 : 1 + t % 3];
            calls.add("tank " + at[0] + " " + at[1]);
            xyt[t] = new long[] {at[0], at[1], t == 0 ? 0 : t == 1 ? 250 : t < 17 ? 21000 : 20500};
        }
        // A chain of the first two TANKS: -500, -250, 1, 300, 600 .. 19800, 20000, 20250.
        calls.add("clock 0 0 500; clock 0 1 0; clock 1 0 450; clock 1 201 0; clock 1 20000 -250");
        calls.add("hit 0 0 20 -1; hit 1 200 20 -1; hit 0 1 20 -1");
        for (int i = 1; i <= 66; i++) {
            calls.add("hit " + i % 2 + " " + 300 * i + " 20 -1");
        }
        calls.add("hit 1 19999 20 -1; hit 0 20000 20 -1; hit 1 20000 20 -1");
        for (int t = 2; t < 30; t++) {
            calls.add("hit " + t + " 20000 20 -1" + (t < 17 ? "; clock " + t + " 0 -500" : ""));
        }
        BigInteger[] fit = fit(xyt);
        List<String> rows = new ArrayList<>(List.of("build = 1", "event 0 0 = 30", "event 0 1 = -500", "event 0 2 = 20500"));
        for (int what = 0; what < 4; what++) {
            rows.add("front 0 " + what + " = " + fit[what]);
        }
        for (int i = 0; i < 30; i++) {
            rows.add("error 0 " + i + " = " + error(fit, xyt[i]));
        }
        runs.rows(String.join("; ", calls), rows.toArray(new String[0]));
    }

    private static BigInteger error(BigInteger[] fit, long[] xyt) {
        return fit[0].multiply(BigInteger.valueOf(xyt[2])).subtract(fit[1])
                .subtract(fit[2].multiply(BigInteger.valueOf(xyt[0]))).subtract(fit[3].multiply(BigInteger.valueOf(xyt[1])));
    }

    /** D, C, U, V by the document's determinants. */
    private static BigInteger[] fit(long[][] xyt) {
        BigInteger[][] sums = new BigInteger[3][4];
        for (int r = 0; r < 3; r++) {
            for (int c = 0; c < 4; c++) {
                long sum = 0;
                for (long[] m : xyt) {
                    long[] factors = {1, m[0], m[1], m[2]};
                    sum += factors[r] * factors[c];
                }
                sums[r][c] = BigInteger.valueOf(sum);
            }
        }
        return new BigInteger[] {determinant(sums, 0, 1, 2), determinant(sums, 3, 1, 2), determinant(sums, 0, 3, 2),
            determinant(sums, 0, 1, 3)};
    }

    private static BigInteger determinant(BigInteger[][] m, int a, int b, int c) {
        BigInteger first = m[1][b].multiply(m[2][c]).subtract(m[1][c].multiply(m[2][b]));
        BigInteger second = m[1][a].multiply(m[2][c]).subtract(m[1][c].multiply(m[2][a]));
        BigInteger third = m[1][a].multiply(m[2][b]).subtract(m[1][b].multiply(m[2][a]));
        return m[0][a].multiply(first).subtract(m[0][b].multiply(second)).add(m[0][c].multiply(third));
    }

    private static void errors() {
        runs.sentence("ERRORS are told times D.");
        String square = SQUARE + "hit 0 100 20 -1; hit 1 100 20 -1; ";
        runs.rows(square + "hit 2 100 20 -1; hit 3 104 20 -1", "build = 1", "front 0 0 = 4", "front 0 1 = -4",
                "front 0 2 = 8", "front 0 3 = 8", "error 0 0 = 4", "error 0 1 = -4", "error 0 2 = -4", "error 0 3 = 4");

        runs.sentence("with the ERROR that is furthest from 0 (the first such, by TANKS)");
        runs.rows(square + "hit 2 100 20 -1; hit 3 104 20 -1", "build = 1", "worst 0 = 0");
        runs.rows(square + "hit 2 104 20 -1; hit 3 100 20 -1", "build = 1", "error 0 0 = -4", "error 0 1 = 4", "worst 0 = 0");
        runs.rows(square + "hit 2 107 20 -1", "build = 1", "error 0 0 = 0", "error 0 1 = 0", "error 0 2 = 0", "worst 0 = 0");
        String twice = "tank 0 0; tank 1 0; tank 0 1; tank 0 1; hit 1 100 20 -1; hit 0 100 20 -1; ";
        runs.rows(twice + "hit 2 101 20 -1; hit 3 100 20 -1", "build = 1", "error 0 0 = 0", "error 0 1 = 0", "error 0 2 = 1",
                "error 0 3 = -1", "worst 0 = 2");
        runs.rows(twice + "hit 3 101 20 -1; hit 2 100 20 -1", "build = 1", "error 0 2 = -1", "error 0 3 = 1", "worst 0 = 2");
        String last = "tank -1 0; tank 1 0; tank 0 -1; tank 0 1; tank 0 0; " + Runs.times(4, "hit # 100 20 -1") + "; ";
        runs.rows(last + "hit 4 90 20 -1", "build = 1", "front 0 0 = 20", "error 0 0 = 40", "error 0 4 = -160", "worst 0 = 4");
        runs.rows(last + "hit 4 110 20 -1", "build = 1", "error 0 0 = -40", "error 0 4 = 160", "worst 0 = 4");
    }

    private static void cores() {
        runs.sentence("CORE: sums of AMOUNT times x, of AMOUNT times y, by the sum of AMOUNTS: told so.");
        runs.rows("tank -100 100; tank -99 99; rule 2 1; rule 3 0; hit 0 100 0 -1; hit 1 100 255 0; build", "core 0 0 = 0",
                "core 0 1 = 0", "core 0 2 = 0");
        runs.rows(Runs.times(30, "tank -100 100") + "; " + Runs.times(30, "hit # 100 255 255") + "; build",
                "core 0 0 = -12240000", "core 0 1 = 12240000", "core 0 2 = 122400");

        runs.sentence("SIZE is the sum of AMOUNTS, SURE, if no MEMBER is of kinds 2, 3.");
        String other = NEIGHBOURS + "hit 1 100 20 -1; ";
        runs.rows(other + "hit 0 100 254 -1; build", "event 0 4 = 1", "core 0 2 = 274");
        runs.rows(other + "hit 0 100 255 254; build", "event 0 4 = 1", "core 0 2 = 4084");
        runs.rows(other + "hit 0 100 255 -1; build", "event 0 4 = 0", "core 0 2 = 275");
        runs.rows(other + "hit 0 100 255 255; build", "event 0 4 = 0", "core 0 2 = 4100");
        runs.rows(other + "hit 0 100 30 -1; hit 0 100 255 -1; hit 0 101 255 255; build", "event 0 3 = 4", "event 0 4 = 1",
                "core 0 2 = 50");
        runs.rows(NEIGHBOURS + "hit 0 100 20 -1; hit 1 100 20 -1; hit 0 900 255 255; hit 1 900 255 -1; hit 0 1800 20 -1;"
                + "hit 1 1800 20 -1; build", "event 0 4 = 1", "event 1 4 = 0", "event 2 4 = 1");
    }

    private static void exposure() {
        runs.sentence("EXPOSURE from a TIME up to ahead of another one");
        runs.rows(ONE, "exposure 0 0 ! 0", "exposure 0 1 ! 1", "exposure 0 20000 ! 20000", "exposure 0 20001 ! 20001",
                "exposure 20000 20000 ! 0", "exposure 20000 20001 ! 1", "exposure 7 9 ! 2");

        runs.sentence("the sum over TANKS of how many TIMES of these they are not DOWN");
        runs.rows("", "exposure 0 20001 ! 0");
        runs.rows(Runs.times(30, "tank # 0"), "exposure 0 20001 ! 600030");
        runs.rows(ONE + "down 0 100 200", "exposure 99 100 = 1", "exposure 99 101 = 1", "exposure 100 101 = 0",
                "exposure 100 200 = 0", "exposure 199 200 = 0", "exposure 199 201 = 1", "exposure 200 201 = 1",
                "exposure 0 20001 = 19901", "down 0 150 150 = 2", "exposure 0 20001 = 19901", "down 0 99 100 = 3",
                "exposure 0 20001 = 19900", "down 0 200 201 = 4", "exposure 0 20001 = 19899", "down 0 150 250 = 5",
                "exposure 0 20001 = 19850", "down 0 120 130 = 6", "exposure 0 20001 = 19850", "down 0 251 252 = 7",
                "exposure 0 20001 = 19849", "exposure 250 252 = 1", "tank 0 0 = 1", "exposure 0 20001 = 39850",
                "down 1 0 20001 = 8", "exposure 0 20001 = 19849", "down 0 0 20000 = 9", "exposure 0 20001 = 1",
                "down 0 20000 20001 = 10", "exposure 0 20001 = 0");
        runs.rows(ONE + "clock 0 0 500; down 0 100 200", "exposure 99 100 = 1", "exposure 100 200 = 0", "exposure 200 201 = 1");
        runs.rows(ONE + "down 0 100 100", "exposure 0 20001 = 20001", "exposure 100 101 = 1", "exposure 100 100 = 0");
        StringBuilder spread = new StringBuilder(ONE);
        for (int i = 0; i < 20; i++) {
            spread.append("down 0 ").append(1000 - 10 * i).append(' ').append(1005 - 10 * i).append("; ");
        }
        runs.rows(spread.toString(), "exposure 0 20001 = 19901", "exposure 810 1005 = 95", "exposure 811 1004 = 95");
    }

    private static void sheets() {
        runs.sentence("SHEETS 0 .. 3 have nothing (at first), or a row of 0 .. 40 numbers (0 at first) of a LANE: 0 bytes, 1 "
                + "shorts, 2 ints");
        for (int k = 0; k < 4; k++) {
            for (int lane = 0; lane < 3; lane++) {
                String of = k + " " + lane;
                runs.rows("", "drop " + k + " ! 0", "at " + k + " 0 " + lane + " ! LOST NULL", "sheet " + of + " 0 = 1",
                        "at " + k + " 0 " + lane + " ! LOST INDEX", "drop " + k + " = 1", "sheet " + of + " 40 = 1",
                        Runs.times(40, "at " + k + " # " + lane + " = 0"), "at " + k + " 40 " + lane + " ! LOST INDEX");
                runs.each("", "sheet " + of + " *", "OUTSIDE", "41 MAX");
                runs.each("", "sheet " + of + " *", "SIZE", "-1 MIN");
            }
            runs.each("", "sheet " + k + " * 1", "OUTSIDE", "MIN -1 3 MAX");
        }
        runs.each("", "sheet * 0 1", "UNKNOWN", "MIN -1 4 MAX");

        runs.sentence("what comes to a cell of it is cut to its LANE");
        cut(0, "-128 -128 127 127 128 -128 255 -1 256 0 -129 127 32768 0 MAX -1 MIN 0");
        cut(1, "-32768 -32768 32767 32767 32768 -32768 65535 -1 65536 0 -32769 32767 255 255 MAX -1 MIN 0");
        cut(2, "MIN MIN MAX MAX 65536 65536 -32769 -32769 -1 -1");
    }

    private static void cut(int lane, String comesAndIs) {
        String[] pairs = comesAndIs.split(" ");
        for (int i = 0; i < pairs.length; i += 2) {
            runs.rows("sheet 3 " + lane + " 2", "put 3 1 " + pairs[i] + " = 1", "at 3 1 " + lane + " = " + pairs[i + 1],
                    "at 3 0 " + lane + " = 0");
        }
    }

    private static void telling() {
        runs.sentence("TRACE (an int that wraps, 0 at first, becomes 31 times it and the number) as they begin");
        StringBuilder rows = new StringBuilder("trace = 0; ");
        int trace = 0;
        int[][] bodies = {{1}, {2, 1}, {1}, {3, 1}};
        boolean wrapped = false;
        for (int turn = 0; turn < 24; turn++) {
            for (int body : bodies[turn % 4]) {
                long next = 31L * trace + body;
                wrapped |= next != (int) next;
                trace = (int) next;
            }
            rows.append("tell ").append(turn % 4).append(" = ").append(new int[] {77, 303, 255, 246}[turn % 4]);
            rows.append("; trace = ").append(trace).append("; ");
            int weighed = turn % 4 < 2 ? 4 : 5;
            trace = 31 * trace + weighed;
            rows.append("weigh ").append(turn % 4).append(" = ").append(new int[] {77, 49, 0, 0}[turn % 4]);
            rows.append("; trace = ").append(trace).append("; ");
        }
        runs.check("it wraps", wrapped && trace != 0);
        runs.rows(KINDS, rows.toString());
        runs.rows(KINDS + Runs.times(7, "tell 0"), "trace = 917087137", "tell 0 = 77", "trace = -1635069824");

        runs.sentence("PLAIN (1): its LOW.");
        runs.rows(ONE + "hit 0 0 0 -1; hit 0 0 254 -1", "tell 0 = 0", "trace = 1", "tell 1 = 254", "trace = 32");

        runs.sentence("STEEP (2): 16 times its HIGH, and what PLAIN's gives.");
        runs.rows(ONE + "hit 0 0 255 0; hit 0 0 255 254", "tell 0 = 255", "trace = 63", "tell 1 = 4319");

        runs.sentence("OVER none of its own: PLAIN's.");
        runs.rows(KINDS, "tell 2 = 255", "trace = 1");

        runs.sentence("BRIM (3): OVER's, less 9.");
        runs.rows(KINDS, "tell 3 = 246", "trace = 94");

        runs.sentence("WEIGHED by a lent body (4): AMOUNT and the kind; OVER has its own (5): 0; BRIM has OVER's.");
        runs.rows(ONE + "hit 0 0 0 -1; hit 0 0 254 -1; hit 0 0 255 0; hit 0 0 255 254; hit 0 0 255 -1; hit 0 0 255 255",
                "weigh 0 = 0", "trace = 4", "weigh 1 = 254", "weigh 2 = 1", "weigh 3 = 4065", "trace = 123136",
                "weigh 4 = 0", "trace = 3817221", "weigh 5 = 0", "trace = 118333856");
    }
}
