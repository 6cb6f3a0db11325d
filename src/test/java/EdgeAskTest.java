/** The sentences of sections III and IV and of promises 19 to 29 that name a case at an edge: at it and on both its sides. */
public final class EdgeAskTest extends Told {
    // CELL 1 stands so high that nothing flows there.
    private static final String STILL = "river 2;bed 9 at 1;";
    // The pit is CELL 1: 8 inches are 4, 2, 1, 1 .. behind their BAR and those that follow.
    private static final String LATE = "river 2;pit 1;bed 9 at 1;";
    // BARS 0 ..: CELL 0: 3 3 2 1 0; CELL 1: 8 3 2 1 1; came 0 2; out 0 4 5 6; drunk 0 1 2 3 4; spilt 0 2; boat z 0 1; a trill in BAR 2.
    private static final String ASKED = STILL + "water 3 at 0;water 8 at 1;bank 3;desk a arms 2 plays dt;claque at 0 drinks 1;"
        + "boat z at 0 draft 2;boat y at 1 draft 9;";
    private static final int[] NOBODY = {-1, LEAST, GREATEST};

    public static void main(String[] args) {
        silentOnes();
        stopFewest();
        stopBars();
        stopNone();
        bringFewest();
        bringBars();
        bringNone();
        oneSupposed();
        wetBytes();
        wetStays();
        earlyUpToTheBar();
        earlyOfItsPart();
        earlyLastBar();
        earlyByDesks();
        earlyTrills();
        earlyAllCells();
        earlyNone();
        encoreBars();
        encoreShort();
        encoreNone();
        troutBar0();
        troutDry();
        troutDraws();
        troutEnds();
        troutOneAfterTheOther();
        troutNone();
        seedEdges();
        drawWraps();
        questionBars();
        questionSigns();
        questionWorth();
        questionThere();
        questionLimits();
        questionQuotients();
        questionNumbers();
        questionOrder();
        questionWords();
        questionEnds();
        questionBehind();
        questionOpen();
        questionShut();
        questionTape();
        questionNoRiver();
        imageParts();
        imageBytes();
        octets();
        onEdges();
        onWrong();
        onStays();
        close();
    }

    // ---- promises 19, 20

    private static String desks(String arms, String part) {
        StringBuilder b = new StringBuilder();
        for (int d = 0; d < arms.length(); d++) b.append("desk ").append("abcdefgh".charAt(d)).append(" arms ").append(arms.charAt(d)).append(" plays ").append(part).append(';');
        return b.toString();
    }

    private static void stop(SluicePit x, int boat, int bar, int many, int bits) {
        due("stop " + boat + " " + bar, x.stop(boat, bar, 0), many);
        due("stop " + boat + " " + bar + ", bits", x.stop(boat, bar, 1), bits);
    }

    private static void bring(SluicePit x, int boat, int bar, int many, int bits) {
        due("bring " + boat + " " + bar, x.bring(boat, bar, 0), many);
        due("bring " + boat + " " + bar + ", bits", x.bring(boat, bar, 1), bits);
    }

    private static void silentOnes() {
        now = "promise 19, III: SILENT DESKS rest in all BARS";
        SluicePit x = pit(STILL + "boat z at 0 draft 1;desk a arms 1 plays d;desk b arms 1 plays rd;desk c arms 1 plays rrd;");
        stop(x, 0, 0, 0, 0);
        stop(x, 0, 1, 1, 1);
        stop(x, 0, 2, 2, 3);
        stop(x, 0, 3, 3, 7);
        stop(x, 0, 60, 3, 7);
        // they trill not, either
        SluicePit y = pit("river 2;water 8 at 0;sluice 0;boat z at 0 draft 8;desk b arms 1 plays u;desk a arms 1 plays ttt;");
        stop(y, 0, 1, 1, 2);
        stop(y, 0, 3, 1, 2);
        stop(y, 0, 4, 0, 0);
        due("all stays", y.deep(0, 3), 8);
        due("all stays", y.boat(0, 3, true), 0);
    }

    private static void stopFewest() {
        now = "promise 19, III: TO STOP: the fewest SILENT DESKS; of like ones the least bits";
        // 4 inches, 2 of them too many: one DESK of two arms ahead of two DESKS of lesser bits
        stop(pit(STILL + "boat z at 0 draft 3;" + desks("112", "d")), 0, 1, 1, 4);
        stop(pit(STILL + "boat z at 0 draft 4;" + desks("122", "d")), 0, 1, 1, 2);
        stop(pit(STILL + "boat z at 0 draft 2;" + desks("1122", "d")), 0, 1, 3, 13);
        // all eight, and the last one alone
        stop(pit(STILL + "boat z at 0 draft 1;" + desks("11111111", "d")), 0, 1, 8, 255);
        stop(pit(STILL + "boat z at 0 draft 2;" + desks("11111111", "d")), 0, 1, 7, 127);
        stop(pit(STILL + "boat z at 0 draft 8;" + desks("11111111", "d")), 0, 1, 1, 1);
        stop(pit(STILL + "boat z at 0 draft 9;" + desks("11111111", "d")), 0, 1, 0, 0);
        stop(pit(STILL + "boat z at 0 draft 9;" + desks("1111111", "r") + "desk h arms 9 plays d;"), 0, 1, 1, 128);
        // without DESKS
        stop(pit(STILL + "boat z at 0 draft 1;"), 0, 60, 0, 0);
        stop(pit(STILL + "water 1 at 0;boat z at 0 draft 1;"), 0, 60, -1, -1);
    }

    private static void stopBars() {
        now = "promise 19, III: All from BAR 0 on: AGROUND in that BAR";
        SluicePit x = pit(STILL + "water 2 at 0;boat y at 0 draft 2;boat z at 0 draft 3;desk a arms 1 plays d;");
        stop(x, 0, 0, -1, -1);
        stop(x, 1, 0, 0, 0);
        stop(x, 1, 1, 1, 1);
        stop(x, 0, 1, -1, -1);
        stop(x, 1, 60, 1, 1);
        x.mark(0, 1, 59, false);
        x.mark(0, 60, 60, true);
        stop(x, 1, 59, 0, 0);
        stop(x, 1, 60, 1, 1);
    }

    private static void stopNone() {
        now = "promise 19: NONE when none do, there are none such, or for others";
        SluicePit x = pit(STILL + "boat z at 0 draft 2;boat y at 0 draft 1;desk a arms 1 plays d;");
        stop(x, 1, 1, 1, 1);
        for (int what : new int[] {-1, 2, LEAST, GREATEST}) due("what " + what, x.stop(1, 1, what), -1);
        for (int bar : new int[] {-1, 61, LEAST, GREATEST}) stop(x, 1, bar, -1, -1);
        for (int boat : NOBODY) stop(x, boat, 1, -1, -1);
        stop(x, 2, 1, -1, -1);
        stop(new SluicePit(), 0, 0, -1, -1);
    }

    private static void bringFewest() {
        now = "promise 20, III: TO BRING: the fewest DESKS that are not SILENT; of like ones the least bits (of those that play)";
        // 10: 5 flow, out 2: 5 and 3; 9: 5 and 2; 6: 3 and 2; 5: 3 and 1
        bring(pit("river 2;boat z at 0 draft 3;" + desks("31111111", "d")), 0, 1, 8, 255);
        bring(pit("river 2;boat z at 0 draft 3;" + desks("31111111", "d")), 0, 60, 8, 255);
        bring(pit("river 2;boat z at 0 draft 3;" + desks("41111111", "d")), 0, 1, 7, 127);
        bring(pit("river 2;boat z at 0 draft 2;" + desks("336", "d")), 0, 1, 1, 4);
        bring(pit("river 2;boat z at 0 draft 2;" + desks("166", "d")), 0, 1, 1, 2);
        bring(pit("river 2;boat z at 0 draft 2;" + desks("33333333", "d")), 0, 1, 2, 3);
        bring(pit("river 2;boat z at 0 draft 2;" + desks("1111111", "r") + "desk h arms 6 plays d;"), 0, 1, 1, 128);
        // nobody need play, or some must not
        bring(pit("river 2;boat z at 1 draft 9;" + desks("9", "t")), 0, 60, 0, 0);
        bring(pit("river 2;boat z at 0 draft 1;water 4 at 0;sluice 0;" + desks("9", "t")), 0, 1, 0, 0);
        bring(pit("river 2;boat z at 0 draft 2;sluice 0;desk a arms 6 plays t;desk b arms 6 plays d;"), 0, 1, 1, 2);
        bring(pit("river 2;boat z at 1 draft 9;"), 0, 0, 0, 0);
    }

    private static void bringBars() {
        now = "promise 20, III: All from BAR 0 on: in the last CELL in that BAR";
        SluicePit x = pit("river 3;boat y at 2 draft 9;boat z at 1 draft 1;boat w at 0 draft 1;pit 1;desk a arms 9 plays rd;");
        bring(x, 0, 0, 0, 0);
        bring(x, 1, 0, -1, -1);
        bring(x, 1, 1, -1, -1);
        bring(x, 1, 2, 1, 1);
        bring(x, 1, 60, 1, 1);
        bring(x, 2, 60, -1, -1);
        SluicePit y = pit("river 2;boat z at 0 draft 2;desk a arms 6 plays r;");
        y.mark(0, 60, 60, true);
        bring(y, 0, 59, -1, -1);
        bring(y, 0, 60, 1, 1);
    }

    private static void bringNone() {
        now = "promise 20: NONE when none do, there are none such, or for others";
        SluicePit x = pit("river 2;boat y at 0 draft 99;boat z at 1 draft 1;desk a arms 9 plays d;");
        bring(x, 0, 60, -1, -1);
        bring(x, 1, 60, 0, 0);
        for (int what : new int[] {-1, 2, LEAST, GREATEST}) due("what " + what, x.bring(1, 1, what), -1);
        for (int bar : new int[] {-1, 61, LEAST, GREATEST}) bring(x, 1, bar, -1, -1);
        for (int boat : NOBODY) bring(x, boat, 1, -1, -1);
        bring(x, 2, 1, -1, -1);
        bring(new SluicePit(), 0, 0, -1, -1);
    }

    private static void oneSupposed() {
        now = "promises 19 to 23, III: each is asked of all as it is, whatever was asked ahead";
        SluicePit x = pit(LATE + "bank 2;boat y at 1 draft 4;boat z at 0 draft 2;desk a arms 8 plays rd;desk b arms 8 plays dr;");
        // BAR 1: 8: out 4: 2 spilt; BAR 2: 2 + 8: out 5: 3 spilt; CELL 0 is dry
        deep(x, 1, 0, 2);
        deep(x, 2, 0, 2);
        wet(x, 0, 0);
        for (int round = 0; round < 5; round++) {
            for (int k = 0; k < 5; k++) {
                int which = (k * (round + 1) + round) % 5;
                if (which == 0) stop(x, 0, 2, 0, 0);
                if (which == 1) stop(x, 0, 0, 0, 0);
                if (which == 2) early(x, 1, 101);
                if (which == 3) due("encore(1, 1)", x.encore(1, 1), 3);
                if (which == 4) due("encore(2, 2)", x.encore(2, 2), 6);
            }
            bring(x, 1, 60, -1, -1);
            due("encore(0, 2)", x.encore(0, 2), 5);
        }
        SluicePit y = pit(STILL + "boat z at 0 draft 2;desk a arms 1 plays rd;desk b arms 1 plays d;desk c arms 9 plays u;");
        for (int round = 0; round < 2; round++) {
            due("encore", y.encore(5, 9), 0);
            stop(y, 0, 2, 1, 1);
            wet(y, 1, 0);
            early(y, 1, 201);
            stop(y, 0, 2, 1, 1);
            due("encore", y.encore(30, 30), 0);
            early(y, 1, 201);
            bring(y, 0, 60, -1, -1);
            early(y, 1, 201);
            stop(y, 0, 1, 0, 0);
        }
        deep(y, 2, 2, 0);
    }

    // ---- promises 21, 22

    private static void early(SluicePit x, int bar, int... due) {
        due("early(" + bar + ", -1)", x.early(bar, -1), due.length);
        for (int k = 0; k < due.length; k++) due("early(" + bar + ", " + k + ")", x.early(bar, k), due[k]);
        due("early(" + bar + ", " + due.length + ")", x.early(bar, due.length), -1);
    }

    private static void wetBytes() {
        now = "promise 21: WATER, a byte for each CELL";
        for (int cells = 2; cells <= 12; cells += 5) {
            for (int size = 0; size <= 13; size++) {
                SluicePit x = pit("river " + cells + ";desk a arms 1 plays r;");
                due("wet of " + size, wet(x, new int[size]), size == cells);
                due("the tape goes", tapeIsEmpty(x), true);
                if (size == cells) early(x, 1, 1);
                else due("nothing is told", x.early(1, -1), -1);
            }
        }
        // any byte is one
        for (int octet : new int[] {0, 1, 10, 32, 99, 100, 127, 128, 255}) {
            SluicePit x = pit("river 2;desk a arms 1 plays r;");
            due("wet of " + octet, wet(x, octet, octet), true);
            due("early", x.early(1, -1), octet == 0 ? 1 : 0);
        }
    }

    private static void wetStays() {
        now = "promise 21: false, doing nothing else, when it is none such, or there is no river";
        SluicePit x = pit(LATE + "desk a arms 8 plays d;");
        due("wet", wet(x, 0, 0), true);
        early(x, 1, 1);
        due("too long", wet(x, 0, 4, 4), false);
        due("the tape goes", tapeIsEmpty(x), true);
        early(x, 1, 1);
        due("too short", wet(x, 9), false);
        due("none", wet(x), false);
        early(x, 1, 1);
        due("another one", wet(x, 0, 4), true);
        early(x, 1);
        SluicePit y = new SluicePit();
        for (int size = 0; size <= 3; size++) {
            due("without a river", wet(y, new int[size]), false);
            due("the tape goes", tapeIsEmpty(y), true);
        }
        opera(y, "river 2;desk a arms 1 plays r;");
        due("nothing is told", y.early(1, -1), -1);
    }

    private static void earlyUpToTheBar() {
        now = "promise 22, III: EARLY: the k-th, 1 up to that BAR; all behind it came one BAR sooner";
        SluicePit x = pit(LATE + "desk a arms 8 plays rrd;");
        wet(x, 0, 0);
        early(x, 1, 1);
        early(x, 2);
        early(x, 3, 3);
        wet(x, 0, 4);
        early(x, 1);
        early(x, 2, 1, 2);
        early(x, 3);
        wet(x, 0, 2);
        early(x, 2);
        early(x, 3, 1, 2);
        // the first one
        SluicePit y = pit(LATE + "desk a arms 8 plays dr;");
        wet(y, 0, 0);
        early(y, 1, 1);
        early(y, 2, 1);
        wet(y, 0, 2);
        early(y, 1);
        early(y, 2, 2);
    }

    private static void earlyOfItsPart() {
        now = "promise 22, III: EARLY: one of its BARS, of its PART (none behind its end)";
        SluicePit x = pit(LATE + "desk a arms 8 plays rrd;");
        // as it is played: nobody left a BAR out
        deep(x, 4, 0, 2);
        wet(x, 0, 2);
        early(x, 4);
        wet(x, 0, 1);
        early(x, 4, 1, 2);
        deep(x, 60, 0, 1);
        early(x, 60, 1, 2);
        wet(x, 0, 0);
        early(x, 60, 3);
        early(pitWet(LATE + "desk a arms 8 plays r;"), 60, 1);
        SluicePit y = pit(LATE + "desk a arms 8 plays r;desk b arms 8 plays r;");
        on(y, 0, 1, 2, check(0, 1, 2));
        wet(y, 0, 0);
        early(y, 60, 101);
    }

    // WATER told: none anywhere.
    private static SluicePit pitWet(String text) {
        SluicePit x = pit(text);
        wet(x, 0, 0);
        return x;
    }

    private static void earlyLastBar() {
        now = "promise 22, III: EARLY in BAR 60, of a PART of 60 BARS";
        SluicePit x = pitWet(LATE + "desk a arms 8 plays (rrrrrrrrrrrr)times 4 rrrrrrrrrrrd;");
        early(x, 60, 60);
        wet(x, 0, 2);
        due("how many", x.early(60, -1), 59);
        due("the first", x.early(60, 0), 1);
        due("the last", x.early(60, 58), 59);
        due("one more", x.early(60, 59), -1);
        wet(x, 0, 4);
        due("in BAR 59", x.early(59, -1), 59);
        due("in BAR 59", x.early(59, 58), 59);
        due("as it is played", x.early(60, -1), 0);
    }

    private static void earlyByDesks() {
        now = "promise 22: the k-th by DESKS, then BARS: 100 times the DESK and the BAR left out";
        SluicePit x = pit(LATE + "desk a arms 8 plays dr;desk b arms 8 plays dr;");
        wet(x, 0, 4);
        early(x, 1, 1, 101);
        early(x, 2, 2, 102);
        wet(x, 0, 2);
        early(x, 2, 1, 101);
        SluicePit y = pit(LATE + desks("11111111", "ur"));
        wet(y, 0, 0);
        early(y, 1, 1, 101, 201, 301, 401, 501, 601, 701);
        early(y, 2, 1, 2, 101, 102, 201, 202, 301, 302, 401, 402, 501, 502, 601, 602, 701, 702);
        // the last one alone: 8 less, as all others play as they do
        SluicePit z = pit(LATE + desks("1111111", "d") + "desk h arms 9 plays d;");
        wet(z, 0, 4);
        early(z, 1, 701);
        wet(z, 0, 8);
        early(z, 1, 1, 101, 201, 301, 401, 501, 601);
    }

    private static void earlyTrills() {
        now = "promise 22, III: EARLY: all behind it came one BAR sooner (trills, too)";
        SluicePit x = pit("river 2;water 8 at 0;sluice 0;desk a arms 1 plays rt;desk b arms 1 plays u;");
        wet(x, 8, 0);
        early(x, 1, 1);
        wet(x, 4, 2);
        early(x, 1, 101);
        // BAR 2, shut as it is played: 4 1; open, when 2 is left out: 3 2; when 1 is left out BAR 1 is shut: then 4 2
        wet(x, 4, 1);
        early(x, 2, 101);
        wet(x, 3, 2);
        early(x, 2, 2);
        wet(x, 4, 2);
        early(x, 2, 1);
    }

    private static void earlyAllCells() {
        now = "promise 22, III: just that WATER is there, of all CELLS";
        String text = "river 3;water 1 at 0;bed 9 at 1;bed 9 at 2;pit 2;desk a arms 8 plays rd;";
        SluicePit x = pit(text);
        int[][] all = {{1, 0, 4}, {0, 0, 4}, {2, 0, 4}, {1, 1, 4}, {1, 0, 3}, {1, 0, 5}, {1, 0, 0}};
        for (int k = 0; k < all.length; k++) {
            wet(x, all[k]);
            if (k == 0) early(x, 1, 1);
            else early(x, 1);
        }
        StringBuilder b = new StringBuilder("river 12;");
        for (int c = 0; c < 12; c++) b.append("water 1 at ").append(c).append(';');
        SluicePit y = pit(b + "desk a arms 9 plays r;");
        wet(y, 1, 1, 1, 1, 1, 1, 1, 1, 1, 1, 1, 1);
        early(y, 1, 1);
        wet(y, 1, 1, 1, 1, 1, 1, 1, 1, 1, 1, 1, 2);
        early(y, 1);
    }

    private static void earlyNone() {
        now = "promise 22: NONE when there is none such, or nothing is told";
        SluicePit x = pit(LATE + "desk a arms 1 plays r;");
        due("nothing is told", x.early(1, -1), -1);
        due("nothing is told", x.early(1, 0), -1);
        wet(x, 0, 0);
        early(x, 1, 1);
        early(x, 60, 1);
        for (int bar : new int[] {0, -1, 61, LEAST, GREATEST}) {
            due("bar " + bar, x.early(bar, -1), -1);
            due("bar " + bar, x.early(bar, 0), -1);
        }
        for (int k : new int[] {-2, 1, LEAST, GREATEST}) due("k " + k, x.early(1, k), -1);
        // without DESKS: told, but nobody
        early(pitWet("river 2;"), 1);
        early(pitWet("river 2;"), 60);
        due("without a river", new SluicePit().early(1, -1), -1);
    }

    // ---- promise 23

    // BARS 1, 30 and 31 are downs: 6 inches: out 3: 3: 2 are spilt; where 1 is left: 7: out 3: 4: 3 are spilt.
    private static final String AGAIN = LATE + "bank 1;desk a arms 6 plays d(rrrrrrr)times 4 dd;";

    private static void encoreBars() {
        now = "promise 23, III: AN ENCORE of n (1 .. 30) BARS behind a BAR (0 and on; both together 60 at most)";
        SluicePit x = pit(AGAIN);
        int[][] all = {{0, 1, 2}, {0, 29, 2}, {0, 30, 5}, {1, 1, 3}, {1, 29, 3}, {1, 30, 6}, {29, 1, 3}, {29, 29, 3}, {29, 30, 6}, {30, 1, 3}, {30, 29, 3},
            {30, 30, 6}, {31, 29, 3}, {58, 1, 3}, {58, 2, 3}, {59, 1, 3}};
        for (int[] one : all) due("encore " + one[0] + " " + one[1], x.encore(one[0], one[1]), one[2]);
        due("all stays", x.sums(60, 3), 8);
        due("all stays", x.has(9), 0);
        due("all stays", x.desk(0, -1), 31);
        now = "promise 23, III: each DESK plays its first n BARS again";
        // 1 and 2 arms: both again, at once
        SluicePit y = pit(LATE + "bank 1;desk a arms 4 plays rd;desk b arms 8 plays dr;desk c arms 2 plays rrd;");
        // 8: out 4: 3 spilt; 1 + 4: out 2: 2 spilt; 1 + 2: out 1: 1 spilt
        due("1", y.encore(0, 1), 3);
        due("2", y.encore(0, 2), 5);
        due("3", y.encore(0, 3), 6);
        due("4", y.encore(0, 4), 6);
        // behind BAR 1: 1 + 8: out 4: 4 spilt
        due("1", y.encore(1, 1), 4);
        due("2", y.encore(1, 2), 6);
        // sluices are shut by the trills that are played again, and no others
        SluicePit z = pit("river 2;bank 2;water 9 at 0;sluice 0;desk a arms 1 plays tr;");
        due("shut", z.encore(0, 1), 7);
        // BAR 1: 2 0; shut again: none is spilt
        due("shut again", z.encore(1, 1), 0);
    }

    private static void encoreShort() {
        now = "promise 23, III: AN ENCORE of more BARS than a PART has";
        SluicePit x = pit(LATE + "bank 1;desk a arms 6 plays d;");
        for (int n = 1; n <= 30; n++) due("encore 0 " + n, x.encore(0, n), 2);
        for (int n = 1; n <= 30; n++) due("encore 30 " + n, x.encore(30, n), 3);
        SluicePit none = pit("river 2;water 99 at 0;bank 9;");
        due("without DESKS", none.encore(0, 1), 50 + 25 - 9 - 9);
    }

    private static void encoreNone() {
        now = "promise 23: NONE when it can't be, or without a river";
        int[][] all = {{0, 0}, {0, 31}, {0, -1}, {-1, 1}, {-1, 2}, {60, 1}, {60, 0}, {59, 2}, {31, 30}, {30, 31}, {61, 1}, {61, -1}, {LEAST, 1}, {LEAST, 30},
            {GREATEST, 1}, {GREATEST - 29, 30}, {0, LEAST}, {0, GREATEST}, {1, GREATEST}, {GREATEST, GREATEST}, {LEAST, LEAST}};
        SluicePit x = pit(AGAIN);
        for (int[] one : all) due("encore " + one[0] + " " + one[1], x.encore(one[0], one[1]), -1);
        for (int[] one : new int[][] {{0, 1}, {30, 30}, {0, 0}}) due("without a river", new SluicePit().encore(one[0], one[1]), -1);
    }

    // ---- promises 24, 25

    private static final long WRAP = 2147483648L;

    private static long drawn(long seed) {
        return (1103515245L * seed + 12345L) % WRAP;
    }

    // How many are left: trout by trout (as the document tells it), or BAR by BAR with all trout in each.
    private static int left(int[][] water, long seed, int cell, int n, int bar, boolean byTrout) {
        int[] at = new int[n];
        for (int i = 0; i < n; i++) at[i] = cell;
        long x = seed;
        for (int step = 0; step < n * bar; step++) {
            int i = byTrout ? step / bar : step % n;
            int b = byTrout ? step % bar + 1 : step / n + 1;
            if (at[i] < 0) continue;
            if (water[at[i]][b] == 0) {
                at[i] = -1;
                continue;
            }
            x = drawn(x);
            int to = at[i] + new int[] {0, -1, 1}[(int) (x / 64 % 3)];
            if (to >= 0 && to < water.length && water[to][b] > 0) at[i] = to;
        }
        int many = 0;
        for (int one : at) if (one >= 0) many++;
        return many;
    }

    private static int[][] waters(SluicePit x) {
        int[][] all = new int[x.has(0)][61];
        for (int c = 0; c < all.length; c++) for (int b = 0; b <= 60; b++) all[c][b] = x.deep(c, b);
        return all;
    }

    private static void troutBar0() {
        now = "promise 24, III: BAR by BAR from 1 on (none is lost in BAR 0)";
        SluicePit x = pit("river 3;water 9 at 2;bed 9 at 2;");
        for (int n : new int[] {1, 2, 49, 50}) {
            for (int c = 0; c < 3; c++) due("BAR 0", x.trout(c, n, 0), n);
            due("a dry CELL", x.trout(0, n, 1), 0);
            due("a dry CELL", x.trout(1, n, 60), 0);
            due("a wet one", x.trout(2, n, 1), n);
            due("a wet one", x.trout(2, n, 60), n);
        }
        // dry in BAR 0, wet from BAR 1 on
        SluicePit y = pit(STILL + "desk a arms 1 plays d;");
        due("BAR 1", y.trout(0, 7, 1), 7);
        due("BAR 60", y.trout(0, 7, 60), 7);
        // in BAR 2 on only: lost in BAR 1
        due("BAR 2", pit(STILL + "desk a arms 1 plays rd;").trout(0, 7, 2), 0);
    }

    private static void troutDry() {
        now = "promise 24, III: in a CELL without WATER in that BAR it is lost";
        SluicePit x = pit(STILL + "water 3 at 0;claque at 0 drinks 1;");
        // 3 2 1 0
        int[] due = {5, 5, 5, 0, 0};
        for (int b = 0; b < due.length; b++) due("BAR " + b, x.trout(0, 5, b), due[b]);
        now = "promise 24, III: one without WATER draws not";
        String text = "river 3;water 1 at 0;water 2 at 1;water 9 at 2;claque at 1 drinks 1;bed 0 at 2;";
        SluicePit y = pit(text);
        due("lost at once", pit(STILL).trout(0, 50, 60), 0);
        int[][] water = waters(y);
        y.seed(3);
        due("trout", y.trout(1, 50, 2), left(water, 3, 1, 50, 2, true));
    }

    // BARS 1, 2: all of 0, 1, 2 are wet in BAR 1; in BAR 2 just those CELLS that are told.
    private static SluicePit wetIn2(boolean up, boolean down) {
        String text = "river 3;claque at 1 drinks 1;water 2 at 1;";
        text += up ? "water 1 at 0;" : "water 2 at 0;claque at 0 drinks 1;";
        text += down ? "water 9 at 2;" : "water 3 at 2;claque at 2 drinks 1;";
        SluicePit x = pit(text);
        for (int c = 0; c < 3; c++) due("wet in BAR 1", x.deep(c, 1) > 0, true);
        due("CELL 0 in BAR 2", x.deep(0, 2) > 0, up);
        due("CELL 1 in BAR 2", x.deep(1, 2) > 0, false);
        due("CELL 2 in BAR 2", x.deep(2, 2) > 0, down);
        return x;
    }

    private static void troutDraws() {
        now = "promise 24, III: 0 it stays, 1 one CELL up (lesser), 2 one down";
        // 12345: 192: 0. 1103527590: 17242618: 1. 1043980748: 16312199: 2
        int[] seeds = {0, 1, GREATEST};
        for (int draw = 0; draw < 3; draw++) {
            due("the draw of " + seeds[draw], drawn(seeds[draw]) / 64 % 3, draw);
            for (int way = 0; way < 4; way++) {
                SluicePit x = wetIn2((way & 1) == 1, (way & 2) == 2);
                x.seed(seeds[draw]);
                due("BAR 1", x.trout(1, 1, 1), 1);
                x.seed(seeds[draw]);
                due("draw " + draw + ", way " + way, x.trout(1, 1, 2), draw == 1 ? way & 1 : draw == 2 ? way >> 1 : 0);
            }
        }
    }

    private static void troutEnds() {
        now = "promise 24, III: if there is one with WATER in that BAR (else it stays)";
        int[] seeds = {0, 1, GREATEST};
        for (int seed : seeds) {
            // no CELL ahead of CELL 0, none behind the last; the other one is dry
            SluicePit x = pit(STILL + "water 9 at 0;");
            x.seed(seed);
            due("CELL 0", x.trout(0, 1, 60), 1);
            SluicePit y = pit(STILL + "water 9 at 1;");
            y.seed(seed);
            due("the last CELL", y.trout(1, 1, 60), 1);
            SluicePit z = pit("river 3;water 9 at 1;bed 9 at 1;bed 9 at 2;bed 9 at 0;");
            int[][] water = waters(z);
            z.seed(seed);
            due("dry on both sides", z.trout(1, 1, 2), left(water, seed, 1, 1, 2, true));
        }
        // dry in BAR 1, wet in BAR 2: it stayed in BAR 1, too, and CELL 1 falls dry
        SluicePit w = pit("river 2;bed 9 at 0;bed 9 at 1;water 2 at 1;claque at 1 drinks 1;desk a arms 1 plays rd;");
        deep(w, 1, 0, 0);
        SluicePit v = pit("river 2;water 3 at 1;claque at 1 drinks 1;desk a arms 1 plays rd;");
        deep(v, 1, 0, 1);
        deep(v, 2, 1, 0);
        v.seed(1);
        due("up was dry in that BAR", v.trout(1, 1, 2), 0);
    }

    private static void troutOneAfterTheOther() {
        now = "promise 24, III: one after the other, BAR by BAR from 1 on";
        SluicePit x = pit("river 4;water 9 at 0;water 3 at 1;water 9 at 2;water 9 at 3;claque at 1 drinks 2;claque at 2 drinks 3;claque at 0 drinks 1;");
        int[][] water = waters(x);
        int unlike = 0;
        for (int seed = 1; seed <= 30; seed++) {
            for (int bar = 2; bar <= 4; bar += 2) {
                int due = left(water, seed, 1, 9, bar, true);
                if (due != left(water, seed, 1, 9, bar, false)) unlike++;
                x.seed(seed);
                due("trout by " + seed, x.trout(1, 9, bar), due);
            }
        }
        due("the other way would be told", unlike > 5, true);
        now = "promise 24, III: (Each call draws on.)";
        SluicePit y = pit("river 3;water 1 at 0;water 2 at 1;water 9 at 2;claque at 1 drinks 1;");
        SluicePit z = pit("river 3;water 1 at 0;water 2 at 1;water 9 at 2;claque at 1 drinks 1;");
        int all = 0;
        for (int k = 0; k < 20; k++) all += y.trout(1, 1, 3);
        due("20 of them in one call", z.trout(1, 20, 3), all);
        due("and the next one", z.trout(1, 9, 3), y.trout(1, 9, 3));
        // what is refused, and a BAR 0, draws not
        SluicePit w = pit("river 3;water 1 at 0;water 2 at 1;water 9 at 2;claque at 1 drinks 1;");
        w.trout(1, 51, 3);
        w.trout(1, 50, 0);
        w.trout(3, 50, 3);
        due("the seed is 1 at first", w.trout(1, 20, 3), all);
    }

    private static void troutNone() {
        now = "promise 24: of n (1 .. 50) from a CELL, behind a BAR (0 .. 60); NONE when something can't be";
        SluicePit x = pit("river 12;water 9 at 0;water 9 at 11;");
        due("the last CELL", x.trout(11, 50, 60), 50);
        for (int n : new int[] {0, -1, 51, LEAST, GREATEST}) {
            due("n " + n, x.trout(0, n, 0), -1);
            due("n " + n, x.trout(0, n, 60), -1);
        }
        for (int cell : new int[] {-1, 12, LEAST, GREATEST}) due("cell " + cell, x.trout(cell, 1, 1), -1);
        for (int bar : new int[] {-1, 61, LEAST, GREATEST}) due("bar " + bar, x.trout(0, 1, bar), -1);
        due("without a river", new SluicePit().trout(0, 1, 0), -1);
        due("without a river", new SluicePit().trout(0, 1, 1), -1);
    }

    private static void seedEdges() {
        now = "promise 25: true; false when it is below 0. (It is 1 at first.)";
        String text = "river 3;water 1 at 0;water 2 at 1;water 9 at 2;claque at 1 drinks 1;";
        int[][] water = waters(pit(text));
        SluicePit x = pit(text);
        due("1 at first", x.trout(1, 50, 2), left(water, 1, 1, 50, 2, true));
        for (int seed : new int[] {0, 1, 2, GREATEST - 1, GREATEST}) {
            due("seed " + seed, x.seed(seed), true);
            for (int none : new int[] {-1, -2, LEAST, LEAST + 1}) due("seed " + none, x.seed(none), false);
            due("trout by " + seed, x.trout(1, 50, 2), left(water, seed, 1, 50, 2, true));
        }
        SluicePit y = new SluicePit();
        due("ahead of an opera", y.seed(9), true);
        opera(y, text);
        due("trout by 9", y.trout(1, 50, 2), left(water, 9, 1, 50, 2, true));
    }

    private static void drawWraps() {
        now = "promise 24, III: x becomes (1103515245 x + 12345) mod 2 to the 31; floor(x / 64) mod m";
        String text = "river 3;water 1 at 0;water 2 at 1;water 9 at 2;claque at 1 drinks 1;";
        int[][] water = waters(pit(text));
        // the greatest; just where the product passes 2 to the 31 and 2 to the 32; where x falls below 64
        int[] seeds = {GREATEST, GREATEST - 1, GREATEST / 2, GREATEST / 2 + 1, 1, 2, 3, 4, 63, 64, 65, 1 << 30, (1 << 30) - 1, 1103515245, 2000000011};
        for (int seed : seeds) {
            SluicePit x = pit(text);
            x.seed(seed);
            due("50 by " + seed, x.trout(1, 50, 2), left(water, seed, 1, 50, 2, true));
            for (int n = 1; n <= 5; n++) {
                x.seed(seed);
                due(n + " by " + seed, x.trout(1, n, 2), left(water, seed, 1, n, 2, true));
            }
        }
    }

    // ---- promise 26: answers

    private static void asks(String... all) {
        SluicePit x = pit(ASKED);
        for (int k = 0; k < all.length; k += 2) {
            long due = Long.parseLong(all[k + 1]);
            if (k % 60 == 58) x = pit(ASKED);
            due(all[k], ask(x, all[k]), due);
            faults(x, all[k], 0, -1);
        }
    }

    private static void questionBars() {
        now = "promise 26, IV: of all BARS 0 .. 60";
        deep(pit(ASKED), 0, 3, 8);
        asks("first all", "0", "last all", "60", "often all", "61", "first bar = 0", "0", "last bar = 0", "0", "first bar = 60", "60", "last bar = 60", "60",
            "often bar < 1", "1", "often bar > 59", "1", "first bar > 0", "1", "last bar < 60", "59", "often bar > 60", "0", "often bar < 0", "0",
            "total 1", "61", "total bar", "1830", "most bar", "60", "least bar", "0", "most 0 - bar", "0", "least 0 - bar", "-60",
            "least max(bar, 60 - bar)", "30", "most min(bar, 60 - bar)", "30", "least max(deep 0, 1)", "1", "most 7", "7", "least 7", "7", "total 0 - 1", "-61",
            "least 5 - trills * 4", "1", "most trills * 4", "4");
        now = "promise 26: NONE of first, last, when its TEST holds in no BAR";
        asks("first bar > 60", "-1", "last bar > 60", "-1", "first not all", "-1", "last not all", "-1", "often not all", "0", "first deep 0 > 3", "-1",
            "last bar < 0", "-1");
    }

    private static void questionSigns() {
        now = "promise 26, IV: SIGN < or > or =";
        asks("often bar < 3", "3", "often bar > 3", "57", "often bar = 3", "1", "often 3 < 3", "0", "often 3 > 3", "0", "often 3 = 3", "61",
            "often 2 < 3", "61", "often 3 < 2", "0", "often 3 > 2", "61", "often 2 > 3", "0", "often 0 - 1 < 0", "61", "often 0 - 1 = 1", "0");
    }

    private static void questionWorth() {
        now = "promise 26, IV: The BAR; inches up to it, it too; 1 if some DESK trills in it, else 0";
        asks("total deep 0", "9", "total deep 1", "71", "total came", "120", "total out", "357", "total drunk", "234", "total spilt", "120", "total trills", "1",
            "first trills = 1", "2", "last trills = 1", "2", "first came = 2", "1", "first came > 0", "1", "first out = 4", "1", "first out = 6", "3",
            "first drunk = 1", "1", "first drunk = 4", "4", "first spilt = 2", "1", "most came", "2", "most out", "6", "most drunk", "4", "most spilt", "2",
            "least came", "0", "least out", "0", "least drunk", "0", "least spilt", "0", "total boat 0", "60", "total boat 1", "61");
        SluicePit x = pit("river 2;desk a arms 1 plays t;desk b arms 1 plays (tttttttttttt)times 5;");
        due("trills", ask(x, "total trills"), 60);
        due("BAR 0", ask(x, "first trills = 1"), 1);
        due("BAR 60", ask(x, "last trills = 1"), 60);
    }

    private static void questionThere() {
        now = "promise 26, IV: 0 of numbers that there are not";
        asks("total deep 2", "0", "total deep 11", "0", "total deep 12", "0", "total deep 9999", "0", "total deep (0 - 1)", "0", "total deep (0 - 9999)", "0",
            "total boat 2", "0", "total boat 3", "0", "total boat 4", "0", "total boat 9999", "0", "total boat (0 - 1)", "0", "total deep (9999 * 9999)", "0",
            "total deep bar", "6", "total boat bar", "1", "total deep (bar - 1)", "5", "total deep deep 9", "9", "total deep boat 0", "66",
            "total boat deep 9", "60", "total deep (2 - 2)", "9", "total deep 0 + deep 1", "80", "total deep 0 * 2", "18");
        SluicePit x = pit("river 12;water 5 at 11;bed 9 at 11;boat a at 0 draft 1;boat b at 0 draft 1;boat c at 0 draft 1;boat d at 11 draft 9;");
        due("the last CELL", ask(x, "most deep 11"), 5);
        due("one more", ask(x, "most deep 12"), 0);
        due("the last BOAT", ask(x, "most boat 3"), 11);
        due("one more", ask(x, "most boat 4"), 0);
        due("without BOATS", ask(pit("river 2;"), "most boat 0"), 0);
    }

    private static void questionLimits() {
        now = "promise 26, IV: each PART but N, each sum, difference, product above 10 to the 6 is that, below -10 to the 6 likewise";
        asks("most 1000 * 1000", "1000000", "most 999 * 1001", "999999", "most 1001 * 1000", "1000000", "most 1000 * 1000 + 0", "1000000",
            "most 1000 * 1000 + 1", "1000000", "most 1000 * 1000 - 1", "999999", "most 1001 * 1000 - 1", "999999", "most 1000 * 1000 + 9 - 9", "999991",
            "most 999 * 1001 + 1", "1000000", "most 999 * 1001 + 2 - 1", "999999",
            "least 0 - 1000 * 1000", "-1000000", "least 0 - 999 * 1001", "-999999", "least 0 - 1000 * 1000 - 1", "-1000000", "least 0 - 1000 * 1000 - 1 + 1", "-999999",
            "least (0 - 1000) * 1000", "-1000000", "least (0 - 1000) * 1001", "-1000000", "least (0 - 1000) * 1001 + 1", "-999999",
            "most 9999 * 9999 * 9999", "1000000", "most 9999 * 9999 * (9999 * 9999)", "1000000", "least 9999 * 9999 * (0 - 9999 * 9999)", "-1000000",
            "most (0 - 9999 * 9999) * (0 - 9999 * 9999)", "1000000", "least (0 - 9999 * 9999) - 9999 * 9999", "-1000000", "most 9999 * 9999 - (0 - 9999 * 9999)", "1000000",
            "most 9999 * 9999 / 1000", "1000", "most 9999 * 9999 / (0 - 1) + 1", "-999999", "total 9999 * 9999", "61000000", "total 0 - 9999 * 9999", "-61000000",
            "most max(9999 * 9999, 1)", "1000000", "most min(9999 * 9999, 9999)", "9999", "most 9999 + 9999", "19998", "most 9999 - 9999", "0");
    }

    private static void questionQuotients() {
        now = "promise 26, IV: / gives the greatest whole number not above, by 0 it gives 0";
        asks("most 6 / 3", "2", "most 7 / 3", "2", "most 8 / 3", "2", "most 9 / 3", "3", "most 1 / 2", "0", "most 0 / 5", "0",
            "most (0 - 6) / 3", "-2", "most (0 - 7) / 3", "-3", "most (0 - 8) / 3", "-3", "most (0 - 1) / 2", "-1", "most (0 - 1) / 9999", "-1",
            "most 6 / (0 - 3)", "-2", "most 7 / (0 - 3)", "-3", "most 1 / (0 - 2)", "-1", "most (0 - 7) / (0 - 3)", "2", "most (0 - 6) / (0 - 3)", "2",
            "most 7 / 0", "0", "most 0 / 0", "0", "least (0 - 7) / 0", "0", "most 7 / 0 + 3", "3", "most 7 / (3 - 3)", "0", "most 7 / 1", "7", "most 7 / (0 - 1)", "-7",
            "total 60 / bar", "" + quotients(), "most 60 / bar", "60", "first 60 / bar = 60", "1", "first 60 / bar = 0", "0");
    }

    private static int quotients() {
        int all = 0;
        for (int b = 1; b <= 60; b++) all += 60 / b;
        return all;
    }

    private static void questionNumbers() {
        now = "promise 26, IV: N (1 to 4 digits); a 5th digit at itself";
        asks("most 0", "0", "most 9", "9", "most 99", "99", "most 999", "999", "most 9999", "9999", "most 0000", "0", "most 0007", "7", "most deep 0000", "3");
        String[] ahead = {"most ", "most 1 + ", "most 1-", "most (", "most deep ", "most boat ", "most min(", "most min(1,", "first ", "first 1 <", "first not ",
            "first [", "first all and ", "first all or ", "most 2 * ", "most 2/"};
        for (String one : ahead) {
            badAsk(one + "00000", 1, one.length() + 4);
            badAsk(one + "123456 x", 1, one.length() + 4);
        }
        // where none is asked it is a FAULT whole, at its first byte
        for (String one : new String[] {"", "most 1 ", "first all ", "most bar ", "most (1 ", "most min "}) badAsk(one + "12345", 1, one.length());
    }

    private static void questionOrder() {
        now = "promise 26, IV: All from the left on; PRODUCTS ahead of sums, and ahead of or";
        asks("most 9 - 3 - 2", "4", "most 9 - 3 + 2", "8", "most 9 - (3 + 2)", "4", "most 24 / 4 / 2", "3", "most 24 / (4 / 2)", "12", "most 7 / 2 * 2", "6",
            "most 2 * 7 / 2", "7", "most 1 + 2 * 3 + 4", "11", "most (1 + 2) * (3 + 4)", "21", "most 9 - 2 * 3", "3", "most 9 - 8 / 3", "7",
            "often bar = 1 or bar = 2 and bar = 3", "1", "often bar = 3 and bar = 2 or bar = 1", "1", "often [bar = 1 or bar = 2] and bar = 2", "1",
            "often not bar = 1 or bar = 1", "61", "often not [bar = 1 or bar = 2]", "59", "often not bar = 1 and not bar = 2", "59", "often not not bar = 1", "1",
            "often not not not bar = 1", "60", "often not all or all", "61", "often not all and all", "0", "often [[all]]", "61", "often [not [not all]]", "61",
            "often all and all and bar = 1 and all", "1", "often bar = 1 or bar = 2 or bar = 3", "3", "often (bar) < 2 and (bar + 1) > 1", "1",
            "often 1 < 2 or 2 < 1 and 2 < 1", "61", "often deep 0 = 3 and came = 0", "1", "most max(min(bar, 9), min(7, 8))", "9", "most min(1 + 2, 3 * 4) - 1", "2");
    }

    // ---- promise 26: FAULTS

    private static void questionWords() {
        now = "promise 26, IV: 1 as in I (an unknown word at its first byte)";
        for (String one : new String[] {"x", "firs all", "firsts all", "Often all", "all", "not all", "bar", "1", "(1)", "min(1,2)", ";", "[all]"}) badAsk(one, 1, 0);
        String[][] pieces = {{"first ", "alll"}, {"first ", "nott all"}, {"first ", "no all"}, {"first all ", "an all"}, {"first all ", "ands"}, {"first all ", "nor all"},
            {"first not ", "first all"}, {"most ", "bars"}, {"most ", "ba"}, {"most ", "all"}, {"most ", "not 1"}, {"most ", "[1]"}, {"most 1 + ", "cames"},
            {"most ", "deeps 1"}, {"most deep ", "dee 1"}, {"most boat ", "all"}, {"most 2 * ", "mill"}, {"most ", "minn(1,2)"}, {"most ", "river"}, {"most ", "spil"},
            {"most (", "trill)"}, {"most max(1, ", "mins)"}, {"first bar ", "is 1"}, {"first bar = ", "= 1"}, {"first bar ", "! 1"}, {"first bar < ", "> 1"}};
        for (String[] one : pieces) badAsk(one[0] + one[1], 1, one[0].length());
        now = "promise 26, IV: words and numbers side by side need a blank";
        String[][] close = {{"first", "1 < 2"}, {"first bar", "1 < 2"}, {"first 1", "bar < 2"}, {"first 1 < 2", "and all"}, {"first 1 < 2", "or all"}, {"first not", "1 < 2"}, {"most deep", "1"}, {"most boat", "0"},
            {"most ", "deepbar"}, {"first ", "notall"}, {"most ", "deepdeep 1"}, {"most", "1"}, {"", "mostbar"}, {"first ", "alland all"}, {"most bar", "2"}};
        for (String[] one : close) badAsk(one[0] + one[1], 1, one[0].length());
        asks("first[bar>1]and(bar)<9 or 2>bar", "0", "most(bar)*2", "120", "most max(1,bar)", "60", "most deep(0)", "3", "most 1+bar-2", "59", "\nmost\nbar\n", "60");
        for (int sign : new int[] {0, 9, 13, 31, 33, 44, 59, 93, 160, 255}) {
            badAsk("most " + (char) sign + "1", 1, 5);
            badAsk("most 1" + (char) sign, 1, 6);
        }
    }

    private static void questionEnds() {
        now = "promise 26, IV: 1 at the text's length, if it ends too soon";
        badAsk("", 1, 0);
        badAsk("  ", 1, 2);
        // each cut behind a word, number or sign; those that stand of themselves are left out
        String[] all = {"first", "last", "often", "total", "most", "least", "first not", "first [", "first [ all", "first [ all or", "first all and", "first all or",
            "first 1", "first 1 <", "first 1 + 2", "first 1 + 2 =", "first not 1", "first ( 1", "first ( 1 )", "most 1 +", "most 1 -", "most 1 *", "most 1 /", "most (",
            "most ( 1", "most ( 1 +", "most deep", "most boat", "most deep deep", "most deep (", "most min", "most min (", "most min ( 1", "most min ( 1 ,", "most min ( 1 , 2",
            "most max", "most max (", "most max ( 1", "most max ( 1 ,", "most max ( 1 , bar", "first min ( 1 , 2 )", "first bar", "first came >", "first [ [ all ]"};
        for (String one : all) {
            badAsk(one, 1, one.length());
            badAsk(one + " \n ", 1, one.length() + 3);
        }
        badAsk("most max ( 1 ", 1, 13);
    }

    private static void questionBehind() {
        now = "promise 26, IV: 1 what stands behind it, too";
        String[] all = {"first all", "last bar = 1", "often [all]", "total 1", "most (1)", "least min(1,2)", "most deep 1", "first not all", "often 1 < 2"};
        for (String one : all) {
            for (String behind : new String[] {")", "]", ";", ",", "x", "all", "not all", "first", "[", "!"}) {
                badAsk(one + " " + behind, 1, one.length() + 1);
                badAsk(one + " " + behind + " 1", 1, one.length() + 1);
            }
            badAsk(one + " 7", 1, one.length() + 1);
        }
        badAsk("often 1 < 2 < 3", 1, 12);
        badAsk("often all = all", 1, 10);
        badAsk("total 1 and 1", 1, 8);
        badAsk("total 1 < 2", 1, 8);
        badAsk("total (1 < 2)", 1, 9);
        badAsk("often [1]", 1, 8);
        badAsk("often (all)", 1, 7);
        badAsk("most min(1)", 1, 10);
        badAsk("most min(1,2,3)", 1, 12);
        badAsk("most (1,2)", 1, 7);
        badAsk("most min 1,2", 1, 9);
        badAsk("most min[1,2]", 1, 8);
        badAsk("most ()", 1, 6);
        badAsk("often []", 1, 7);
        badAsk("often [all)", 1, 10);
        badAsk("most (1]", 1, 7);
    }

    // Openers by their signs: [ and n (not) ahead, then ( d (deep) b (boat) m (min with its bracket).
    private static String opened(String signs, boolean shut, int[] places) {
        StringBuilder b = new StringBuilder("often ");
        StringBuilder behind = new StringBuilder();
        boolean sums = false;
        for (int k = 0; k < signs.length(); k++) {
            char sign = signs.charAt(k);
            if ("(dbm".indexOf(sign) >= 0 && !sums) {
                sums = true;
                behind.insert(0, "< 1");
            }
            places[k] = b.length() + (sign == 'm' ? 4 : 0);
            b.append(sign == '[' || sign == '(' ? "" + sign : sign == 'n' ? "not " : sign == 'd' ? "deep " : sign == 'b' ? "boat " : "max (");
            behind.insert(0, sign == '[' ? "]" : sign == '(' ? ")" : sign == 'm' ? ", 0)" : " ");
        }
        b.append(sums ? "0" : "all");
        return shut ? b.append(behind).toString() : b.toString();
    }

    private static void questionOpen() {
        now = "promise 26, IV: 4 the 7th of ( [ not deep boat that is open at once, at it";
        int[] places = new int[7];
        for (int tests = 0; tests <= 7; tests++) {
            for (int pattern = 0; pattern < 200; pattern++) {
                StringBuilder b = new StringBuilder();
                int by = pattern * 2654435 + tests * 40503 + 7;
                for (int k = 0; k < 7; k++) {
                    by = by * 1103515245 + 12345;
                    int one = (by >>> 16) & 3;
                    b.append(k < tests ? "[n[n".charAt(one) : "(dbm".charAt(one));
                }
                String seven = opened(b.toString(), true, places);
                badAsk(seven, 4, places[6]);
                badAsk(opened(b.toString(), false, places), 4, places[6]);
                badAsk(seven.substring(0, places[6]) + "x", 1, places[6]);
                SluicePit x = pit("river 2;");
                String six = opened(b.substring(0, 6), true, places);
                due("six: " + six, ask(x, six) >= 0, true);
                faults(x, six, 0, -1);
            }
        }
        for (char one : "[n(dbm".toCharArray()) {
            String seven = ("" + one).repeat(7);
            badAsk(opened(seven, true, places), 4, places[6]);
            SluicePit x = pit("river 2;");
            due("six", ask(x, opened(seven.substring(1), true, places)) >= 0, true);
        }
        // where none may stand it is a FAULT 1
        badAsk("most ((((((not", 1, 11);
        badAsk("most (((((([", 1, 11);
        badAsk("first [[[[[[ all not", 1, 17);
        badAsk("most ((((((1 deep", 1, 13);
        badAsk("first not not not not not not all (", 1, 34);
        // a word alone opens nothing
        badAsk("most ((((((min", 1, 14);
        badAsk("most ((((((max 1", 1, 15);
    }

    private static void questionShut() {
        now = "promise 26, IV: open at once (not until its FACT, deep and boat until their PART ends)";
        String six = "((((((1))))))";
        String five = "(((((1)))))";
        String four = "((((1))))";
        String[] goods = {"often " + six + " > 0 and " + six + " > 0 or " + six + " > 0", "often " + six + " = " + six, "most " + six + " + " + six + " * " + six,
            "most deep " + five + " + " + six, "most deep deep deep deep deep deep 1 + deep deep deep deep deep deep 1 - " + six,
            "most boat boat boat boat boat boat 1 * " + six, "often not not not not not not all and not not not not not not all or [[[[[[all]]]]]]",
            "often not all and [[[[[[all]]]]]]", "often not [[[[[all]]]]] and [[[[[[all]]]]]]", "often not bar > 1 and " + six + " > 0", "often [all] and [[[[[[all]]]]]]",
            "often not bar > deep " + four + " and " + six + " > 0", "most min(1,2) + " + six, "most min(" + five + "," + five + ") + max(1," + five + ") - 0",
            "often [not all and " + five + " > 0]", "most (deep 0 + " + five + ")", "most (deep 0 * boat 0 + deep " + four + ")",
            "most deep (deep 0 + " + four + ")", "often not deep 0 > deep deep deep deep deep 0 and all"};
        for (String one : goods) {
            SluicePit x = pit("river 2;water 1 at 0;");
            due("ask " + one, ask(x, one) != NOTHING, true);
            faults(x, one, 0, -1);
        }
        // not lasts until its FACT ends, a comparison's other side too; deep until the bracket behind it is shut
        String[][] bads = {{"often not 1 < (((((", "(1"}, {"often not " + five + " < (((((", "(1"}, {"often not deep 0 < deep deep deep deep deep ", "deep 0"},
            {"most deep (((((", "(1"}, {"most deep (deep 0 + ((((", "(1"}, {"most (deep 0 + (((((", "(1"}, {"often [not all and (((((", "(1"},
            {"often [not all] and [[[[[[", "[all"}, {"most min(1, (((((", "(1"}, {"most min((((((", "(1"}, {"most max((1),(((((", "(1"},
            {"often not [all or not not not not ", "not all"}, {"most " + five + " + deep (((((", "(1"}};
        for (String[] one : bads) badAsk(one[0] + one[1], 4, one[0].length());
    }

    private static void questionTape() {
        now = "promise 26: The tape (it goes) is a QUESTION";
        StringBuilder b = new StringBuilder("total 1");
        while (b.length() < 1599) b.append("+1");
        SluicePit x = pit("river 2;");
        due("1599 bytes", ask(x, b.toString()), 61L * (b.length() - 5) / 2);
        due("the tape goes", tapeIsEmpty(x), true);
        badAsk(b + "+", 1, 1600);
        SluicePit y = pit("river 2;");
        due("1600 bytes", ask(y, b + " "), 61L * (b.length() - 5) / 2);
        StringBuilder c = new StringBuilder("often all");
        while (c.length() + 8 <= 1600) c.append(c.length() % 3 == 0 ? " and all" : " or  all");
        SluicePit z = pit("river 2;");
        due("often", ask(z, c.toString()), 61);
        due("the same again", ask(z, "often all"), 61);
        due("the tape goes", tapeIsEmpty(z), true);
        StringBuilder d = new StringBuilder("often not all");
        while (d.length() + 9 <= 1600) d.append(" and all ");
        due("often not", ask(pit("river 2;"), d.toString()), 0);
    }

    private static void questionNoRiver() {
        now = "promise 26: NOTHING (the tape goes, nothing else is done, fault() stays) without a river";
        SluicePit x = new SluicePit();
        for (String one : new String[] {"often all", "x", "", "first ("}) {
            due("ask " + one, ask(x, one), NOTHING);
            faults(x, one, 0, -1);
            due("the tape goes", tapeIsEmpty(x), true);
        }
        opera(x, "river 99;");
        faults(x, "river 99;", 2, 6);
        for (String one : new String[] {"often all", "x", ""}) {
            due("ask " + one, ask(x, one), NOTHING);
            faults(x, one, 2, 6);
        }
        opera(x, "river 2;");
        due("with a river", ask(x, "often all"), 61);
    }

    // ---- promises 27 to 29

    // What image() writes, byte by byte.
    private static void image(SluicePit x, int... ahead) {
        due("image", x.image(), ahead.length + 1);
        for (int k = 0; k < ahead.length; k++) due("octet " + k, x.octet(k), ahead[k]);
        due("the last octet", x.octet(ahead.length), check(ahead));
        for (int k : new int[] {-1, ahead.length + 1, LEAST, GREATEST}) due("octet " + k, x.octet(k), -1);
    }

    private static void imageParts() {
        now = "promise 27, IV: for each DESK how many BARS its PART has, each; last a byte";
        image(new SluicePit());
        image(pit("river 2;"));
        image(pit("river 2;desk a arms 9 plays d;"), 1, 0);
        image(pit("river 2;desk a arms 1 plays durt;desk b arms 2 plays t;"), 4, 0, 1, 2, 3, 1, 3);
        SluicePit x = pit("river 2;desk a arms 1 plays d;desk b arms 1 plays u;desk c arms 1 plays t;");
        on(x, 1, 0, 0, 1, 3, check(1, 0, 0, 1, 3));
        image(x, 1, 0, 0, 1, 3);
        on(x, 0, 0, 0, check(0, 0, 0));
        image(x, 0, 0, 0);
        int[] sixty = new int[61];
        sixty[0] = 60;
        sixty[60] = 3;
        image(pit("river 2;desk a arms 1 plays (dddddddddddd)times 4 dddddddddddt;"), sixty);
        // as all is now
        SluicePit y = pit("river 2;desk a arms 1 plays d;");
        y.mark(0, 3, 3, false);
        image(y, 3, 0, 2, 2);
        teach(y, 0, "tu");
        image(y, 2, 3, 1);
        y.undo();
        image(y, 3, 0, 2, 2);
        y.undo();
        image(y, 1, 0);
    }

    private static void imageBytes() {
        now = "promise 27, IV: all ahead from 149 on, c = (3 c + it) mod 251";
        // 3 times 149 and n: 447 + n: 196 + n; where it wraps: 196 + 54 = 250, 55: 0
        for (int n = 52; n <= 57; n++) {
            SluicePit x = pit("river 2;desk a arms 1 plays d;");
            x.mark(0, n, n, false);
            int c = (447 + n) % 251;
            due("image", x.image(), n + 2);
            c = 3 * c % 251;
            for (int k = 2; k <= n; k++) c = (3 * c + 2) % 251;
            due("the last octet", x.octet(n + 1), c);
        }
        // all bytes that may be, over many PARTS: each below 251
        SluicePit y = pit("river 2;desk a arms 1 plays d;");
        for (int d = 0; d < 4; d++) {
            for (int e = 0; e < 4; e++) {
                due("on", on(y, 2, d, e, check(2, d, e)), true);
                image(y, 2, d, e);
            }
        }
    }

    private static void octets() {
        now = "promise 28: Byte k of the latest image(); NONE when there is none such";
        SluicePit x = pit("river 2;desk a arms 1 plays durt;");
        for (int k : new int[] {-1, 0, 1, GREATEST}) due("ahead of any", x.octet(k), -1);
        image(x, 4, 0, 1, 2, 3);
        // what is done later changes nothing in it
        x.mark(0, 1, 9, true);
        opera(x, "river 3;");
        due("octet 0", x.octet(0), 4);
        due("octet 4", x.octet(4), 3);
        due("octet 5", x.octet(5), check(4, 0, 1, 2, 3));
        due("octet 6", x.octet(6), -1);
        // a shorter one ends sooner
        image(x);
        due("octet 1", x.octet(1), -1);
        // the longest one
        StringBuilder b = new StringBuilder("river 2;");
        for (int d = 0; d < 8; d++) b.append("desk ").append("abcdefgh".charAt(d)).append(" arms 1 plays (uuuuuuuuuuuu)times 5;");
        SluicePit y = pit(b.toString());
        due("image", y.image(), 489);
        int[] ahead = new int[488];
        for (int k = 0; k < 488; k++) ahead[k] = k % 61 == 0 ? 60 : 1;
        for (int k : new int[] {0, 1, 60, 61, 62, 427, 486, 487}) due("octet " + k, y.octet(k), ahead[k]);
        due("octet 488", y.octet(488), check(ahead));
        due("octet 489", y.octet(489), -1);
        due("octet -1", y.octet(-1), -1);
    }

    private static void onEdges() {
        now = "promise 29: true, PARTS are as it tells (of 0 .. 60 BARS), nothing can be undone";
        for (int n : new int[] {0, 1, 2, 59, 60, 61, 62, 255}) {
            SluicePit x = pit("river 2;desk a arms 1 plays durt;desk b arms 2 plays d;");
            x.mark(0, 1, 1, true);
            for (int last = 0; last < 2; last++) {
                int[] all = new int[n + 3];
                int at = 0;
                if (last == 1) all[at++] = 0;
                all[at++] = n;
                for (int k = 0; k < n; k++) all[at++] = k % 4;
                int[] ahead = new int[n + 2];
                System.arraycopy(all, 0, ahead, 0, n + 2);
                all[n + 2] = check(ahead);
                due("on of " + n, on(x, all), n <= 60);
                due("the tape goes", tapeIsEmpty(x), true);
                if (n <= 60) {
                    acts(x, last, "durt".repeat(15).substring(0, n));
                    acts(x, 1 - last, "");
                    due("undo", x.undo(), false);
                    due("has(8)", x.has(8), n);
                    due("bar", x.desk(last, n + 1), n < 60 ? 2 : -1);
                    image(x, ahead);
                } else {
                    acts(x, 0, "durt");
                    acts(x, 1, "d");
                    due("has(9)", x.has(9), 1);
                }
            }
        }
        SluicePit none = pit("river 2;");
        due("without DESKS", on(none, 149), true);
        due("without DESKS", on(none, 148), false);
        due("without DESKS", on(none, 149, 149), false);
    }

    private static void onWrong() {
        now = "promise 29: false when it is none, or there is no river, all staying";
        int[][] all = {{}, {149}, {1}, {1, 0}, {1, 0, 1}, {1, 0, 1, 3}, {1, 0, 1, 3, check(1, 0, 1, 3) + 1}, {1, 0, 1, 3, check(1, 0, 1, 3) - 1},
            {1, 0, 1, 3, check(1, 0, 1, 3), 0}, {1, 0, 1, 3, check(1, 0, 1, 3), check(1, 0, 1, 3)}, {1, 4, 1, 3, check(1, 4, 1, 3)}, {1, 0, 1, 4, check(1, 0, 1, 4)},
            {1, 255, 1, 3, check(1, 255, 1, 3)}, {2, 0, 1, 3, check(2, 0, 1, 3)}, {1, 0, 2, 3, check(1, 0, 2, 3)}, {1, 0, 0, 3, check(1, 0, 0, 3)},
            {1, 0, check(1, 0)}, {1, 0, 1, 3, 0, check(1, 0, 1, 3, 0)}, {1, 0, 1, 3, 251}, {0, check(0)}, {61, 0, check(61, 0)}};
        for (int[] one : all) {
            SluicePit x = pit("river 2;water 9 at 0;desk a arms 1 plays du;desk b arms 2 plays r;");
            x.mark(0, 1, 2, true);
            x.image();
            wet(x, 4, 3);
            due("on", on(x, one), false);
            due("the tape goes", tapeIsEmpty(x), true);
            acts(x, 0, "dd");
            acts(x, 1, "r");
            has(x, 2, 2, 0, 0, 0, 0, 0, 99, 2, 1);
            deep(x, 1, 5, 3);
            due("the image stays", x.octet(0), 2);
            due("what is wet stays", x.early(1, -1) >= 0, true);
            due("undo", x.undo(), true);
            acts(x, 0, "du");
        }
        SluicePit good = pit("river 2;desk a arms 1 plays du;desk b arms 2 plays r;");
        due("the good one", on(good, 1, 0, 1, 3, check(1, 0, 1, 3)), true);
        for (int[] one : new int[][] {{149}, {}, {0, check(0)}, {1, 0, check(1, 0)}}) {
            SluicePit x = new SluicePit();
            due("without a river", on(x, one), false);
            due("the tape goes", tapeIsEmpty(x), true);
            due("desks", x.has(1), 0);
        }
    }

    private static void onStays() {
        now = "promise 29: AN IMAGE read back";
        SluicePit x = pit("river 2;water 9 at 0;desk a arms 3 plays dudt;desk b arms 2 plays (dddddddddddd)times 5;");
        int size = x.image();
        due("image", size, 67);
        int[] own = new int[size];
        for (int k = 0; k < size; k++) own[k] = x.octet(k);
        int deep = x.deep(0, 30);
        x.mark(0, 1, 60, false);
        x.mark(1, 1, 60, false);
        due("another river", x.deep(0, 30) != deep, true);
        wet(x, 1, 1);
        due("on", on(x, own), true);
        acts(x, 0, "dudt");
        due("bars", x.desk(1, -1), 60);
        due("bar 60", x.desk(1, 60), 0);
        due("the river", x.deep(0, 30), deep);
        due("arms stay", x.desk(0, 0), 3);
        due("has(9)", x.has(9), 0);
        due("undo", x.undo(), false);
        due("what is wet stays", x.early(60, -1) >= 0, true);
        // each byte otherwise: never the same PARTS with the same last byte
        for (int k = 0; k < size; k += 11) {
            int[] other = own.clone();
            other[k] = other[k] + 1;
            due("on with byte " + k + " otherwise", on(x, other), false);
        }
        // of another OPERA with as many DESKS it is one, too
        SluicePit y = pit("river 3;desk q arms 9 plays r;desk p arms 9 plays r;");
        due("on", on(y, own), true);
        acts(y, 0, "dudt");
        due("with fewer DESKS", on(pit("river 3;desk q arms 9 plays r;"), own), false);
        due("with more DESKS", on(pit("river 3;desk q arms 9 plays r;desk p arms 9 plays r;desk o arms 9 plays r;"), own), false);
    }
}
