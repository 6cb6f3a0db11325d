/** The sentences of section II and of promises 9 and 11 to 18 that name a case at an edge: at it and on both its sides. */
public final class EdgeRiverTest extends Told {
    // CELL 1 stands so high that nothing flows there: what is told of a CELL is just what is in it.
    private static final String STILL = "river 2;bed 9 at 1;";

    public static void main(String[] args) {
        bar0();
        bars();
        behindTheEnd();
        pitLeads();
        pitCell();
        flowHalf();
        flowBeds();
        flowAllAtMost();
        flowOneAfterTheOther();
        overSluices();
        sluiceByBars();
        runsOut();
        claquesDrink();
        claquesInOrder();
        bankSpills();
        bank99();
        order();
        sumsUpTo();
        sumsAnew();
        ledUpTo();
        boatAground();
        boatGoes();
        boatLast();
        boatSluice();
        boatNone();
        firstBars();
        firstNone();
        millTurns();
        millUpTo();
        marks();
        marksBetween();
        marksRefused();
        acts20();
        actsOfAll();
        undoNothing();
        close();
    }

    // One BAR of a river of two CELLS: WATER told, WATER behind BAR 1.
    private static void one(String text, int w0, int w1, int due0, int due1) {
        SluicePit x = pit("river 2;water " + w0 + " at 0;water " + w1 + " at 1;" + text);
        deep(x, 0, w0, w1);
        deep(x, 1, due0, due1);
    }

    // ---- promise 9

    private static void bar0() {
        now = "promise 9, II: BAR 0 is as told: WATER of the CELLS";
        SluicePit x = pit("river 2;bank 1;water 99 at 0;water 98 at 1;claque at 0 drinks 9;boat b at 0 draft 1;sluice 0;mill m at 1 needs 98;desk a arms 9 plays u;");
        deep(x, 0, 99, 98);
        int[] due = {0, 0, 0, 0, 197, 0};
        for (int what = 0; what < 6; what++) due("sums(0, " + what + ")", x.sums(0, what), due[what]);
        due("boat", x.boat(0, 0, false), 0);
        due("led", x.led(0, 0), 0);
        due("turning", x.turning(0, 0), 1);
        // BAR 1: 1 above, none flows; out 49; drunk 9; 90 and 49: spilt 89 and 48; the boat goes
        deep(x, 1, 1, 1);
        int[] then = {0, 49, 9, 137, 2, 0};
        for (int what = 0; what < 6; what++) due("sums(1, " + what + ")", x.sums(1, what), then[what]);
        due("boat", x.boat(0, 1, false), 1);
        due("turning", x.turning(0, 1), 1);
    }

    private static void bars() {
        now = "promise 9: in a BAR (0 .. 60); NONE when there are none such";
        SluicePit x = pit("river 12;water 7 at 11;bed 9 at 11;desk a arms 9 plays r;");
        x.mark(0, 60, 60, true);
        due("BAR 0", x.deep(11, 0), 7);
        due("BAR 1", x.deep(11, 1), 4);
        due("BAR 59", x.deep(11, 59), 1);
        due("BAR 59", x.deep(0, 59), 0);
        // 9: 4 2 1 and on no more
        due("BAR 60", x.deep(0, 60), 5);
        due("BAR 60", x.deep(1, 60), 2);
        due("BAR 60", x.deep(2, 60), 1);
        due("BAR 60", x.deep(3, 60), 1);
        for (int bar : new int[] {-1, 61, LEAST, GREATEST}) {
            due("bar " + bar, x.deep(0, bar), -1);
            due("bar " + bar, x.deep(11, bar), -1);
        }
        for (int cell : new int[] {-1, 12, LEAST, GREATEST}) {
            due("cell " + cell, x.deep(cell, 0), -1);
            due("cell " + cell, x.deep(cell, 60), -1);
        }
    }

    private static void behindTheEnd() {
        now = "promise 9, II: each DESK does as its PART's BAR tells (the first one in BAR 1); behind its end it rests";
        SluicePit x = pit("river 2;desk a arms 5 plays dud;desk b arms 3 plays t;");
        int[] came = {0, 5, 5, 10, 10, 10};
        int[] trilled = {0, 1, 1, 1, 1, 1};
        for (int b = 0; b < 6; b++) {
            due("came up to " + b, x.sums(b, 0), came[b]);
            due("trilled up to " + b, x.sums(b, 5), trilled[b]);
        }
        due("came up to 60", x.sums(60, 0), 10);
        SluicePit y = pit("river 2;desk a arms 9 plays (dddddddddddd)times 5;");
        due("came up to 59", y.sums(59, 0), 531);
        due("came up to 60", y.sums(60, 0), 540);
    }

    private static void pitLeads() {
        now = "promise 9, II: its CELL has as many inches more as arms of all DESKS that bow down";
        String desks = "desk a arms 1 plays #;desk b arms 2 plays #;desk c arms 9 plays #;";
        String[] all = {"uuu", "ddd", "dur", "udt", "rrd", "ttt", "trd"};
        int[] due = {0, 12, 1, 2, 9, 0, 9};
        for (int k = 0; k < all.length; k++) {
            String text = STILL;
            for (int d = 0; d < 3; d++) text += desks.split(";")[d].replace('#', all[k].charAt(d)) + ";";
            SluicePit x = pit(text);
            deep(x, 1, due[k] > 9 ? due[k] - (due[k] - 9) / 2 : due[k]);
            due("came", x.sums(1, 0), due[k]);
            for (int d = 0; d < 3; d++) due("led", x.led(d, 1), all[k].charAt(d) == 'd' ? new int[] {1, 2, 9}[d] : 0);
        }
    }

    private static void pitCell() {
        now = "promise 9, II: the pit: its CELL";
        deep(pit("river 3;bed 9 at 1;bed 9 at 2;desk a arms 4 plays d;"), 1, 4, 0, 0);
        // 4 above: 2 flow to CELL 2, out 1
        deep(pit("river 3;bed 9 at 1;bed 9 at 2;pit 1;desk a arms 4 plays d;"), 1, 0, 2, 1);
        deep(pit("river 3;bed 9 at 1;bed 9 at 2;pit 2;desk a arms 4 plays d;"), 1, 0, 0, 2);
        // the pit FIRST: it flows in the same BAR
        deep(pit("river 2;desk a arms 4 plays d;"), 1, 2, 1);
    }

    private static void flowHalf() {
        now = "promise 9, II: if the CELL's height is above the next one's, floor(half of what it is above) flows there";
        one("", 3, 4, 3, 2);
        one("", 4, 4, 4, 2);
        one("", 5, 4, 5, 2);
        // 1 flows: 5 and 5, out 2
        one("", 6, 4, 5, 3);
        one("", 7, 4, 6, 3);
        // 2: 6 and 6, out 3
        one("", 8, 4, 6, 3);
        one("", 0, 99, 0, 50);
        // 49: 50 and 49, out 24
        one("", 99, 0, 50, 25);
        one("", 99, 99, 99, 50);
        one("", 0, 0, 0, 0);
    }

    private static void flowBeds() {
        now = "promise 9, II: height (bed and WATER)";
        // 4 above 4, 5 above 4, 6 above 4: none, none, 1
        one("bed 2 at 0;", 2, 4, 2, 2);
        one("bed 3 at 0;", 2, 4, 2, 2);
        one("bed 4 at 0;", 2, 4, 1, 3);
        one("bed 2 at 1;", 6, 4, 6, 2);
        one("bed 1 at 1;", 6, 4, 6, 2);
        one("bed 0 at 1;", 6, 4, 5, 3);
        one("bed 9 at 0;bed 9 at 1;", 6, 4, 5, 3);
        one("bed 9 at 0;bed 7 at 1;", 4, 4, 3, 3);
        one("bed 7 at 0;bed 9 at 1;", 4, 4, 4, 2);
    }

    private static void flowAllAtMost() {
        now = "promise 9, II: all its WATER at most";
        one("bed 9 at 0;", 0, 0, 0, 0);
        // 10 above: 5, but 1 is there
        one("bed 9 at 0;", 1, 0, 0, 1);
        // 17 above: 8 of 8; 18: 9 of 9; 19: 9 of 10
        one("bed 9 at 0;", 8, 0, 0, 4);
        one("bed 9 at 0;", 9, 0, 0, 5);
        one("bed 9 at 0;", 10, 0, 1, 5);
        one("bed 9 at 0;", 11, 0, 1, 5);
        // 8 above 3: 2 of 2
        one("bed 6 at 0;", 2, 3, 0, 3);
    }

    private static void flowOneAfterTheOther() {
        now = "promise 9, II: from CELL 0 on, but not the last one";
        deep(pit("river 12;water 99 at 0;"), 1, 50, 25, 12, 6, 3, 2, 1, 0, 0, 0, 0, 0);
        // what comes from CELL 0 counts for CELL 1: 4 and 4: 2 flow on; what CELL 1 gives on counts no more for CELL 0
        deep(pit("river 3;water 8 at 0;"), 1, 4, 2, 1);
        // 1 flows to CELL 2; CELL 0, equal, gave none
        deep(pit("river 3;water 4 at 0;water 4 at 1;water 2 at 2;"), 1, 4, 3, 2);
        // no water flows up
        deep(pit("river 3;water 9 at 2;bed 9 at 2;"), 1, 0, 0, 5);
    }

    private static void overSluices() {
        now = "promise 9, II: none over a sluice when some DESK trills in this BAR";
        String[] trills = {"desk a arms 1 plays t;", "desk a arms 1 plays r;desk b arms 1 plays t;desk c arms 1 plays u;",
            "desk a arms 1 plays u;desk b arms 1 plays r;desk c arms 1 plays t;"};
        for (String trill : trills) {
            one("sluice 0;" + trill, 8, 0, 8, 0);
            one(trill, 8, 0, 4, 2);
            String three = "river 3;water 16 at 0;";
            deep(pit(three + trill), 1, 8, 4, 2);
            deep(pit(three + trill + "sluice 0;"), 1, 16, 0, 0);
            deep(pit(three + trill + "sluice 1;"), 1, 8, 8, 0);
            deep(pit(three + trill + "sluice 1;sluice 0;"), 1, 16, 0, 0);
            // the last CELL runs out all the same
            deep(pit("river 3;water 9 at 2;sluice 1;sluice 0;" + trill), 1, 0, 0, 5);
        }
        one("sluice 0;", 8, 0, 4, 2);
        one("sluice 0;desk a arms 1 plays r;desk b arms 1 plays u;", 8, 0, 4, 2);
        one("sluice 0;desk a arms 4 plays d;", 4, 0, 4, 2);
        one("sluice 0;desk a arms 4 plays d;desk b arms 1 plays t;", 4, 0, 8, 0);
    }

    private static void sluiceByBars() {
        now = "promise 9, II: a sluice, BAR by BAR";
        SluicePit x = pit("river 2;water 40 at 0;sluice 0;desk a arms 1 plays rtrt;desk b arms 1 plays rrrt;");
        deep(x, 1, 20, 10);
        deep(x, 2, 20, 5);
        // 15 above: 7: 13 and 12
        deep(x, 3, 13, 6);
        deep(x, 4, 13, 3);
        // 10 above: 5: 8 and 8
        deep(x, 5, 8, 4);
        int[] trilled = {0, 0, 1, 1, 2, 2};
        for (int b = 0; b < 6; b++) due("trilled up to " + b, x.sums(b, 5), trilled[b]);
        // in BAR 60
        SluicePit y = pit("river 2;desk a arms 9 plays (rrrrrrrrrrrr)times 4 rrrrrrrrrrrt;");
        due("trilled up to 59", y.sums(59, 5), 0);
        due("trilled up to 60", y.sums(60, 5), 1);
    }

    private static void runsOut() {
        now = "promise 9, II: THEN the last CELL: floor(half its WATER) runs OUT";
        int[] due = {0, 1, 1, 2, 2, 3, 3};
        for (int w = 0; w < due.length; w++) {
            one("bed 9 at 1;", 0, w, 0, due[w]);
            due("out", pit("river 2;bed 9 at 1;water " + w + " at 1;").sums(1, 1), w - due[w]);
        }
        one("bed 9 at 1;", 0, 99, 0, 50);
        one("bed 9 at 1;", 0, 98, 0, 49);
        // one inch never runs out
        due("BAR 60", pit("river 2;water 99 at 1;").deep(1, 60), 1);
        due("out", pit("river 2;water 99 at 1;").sums(60, 1), 98);
    }

    private static void claquesDrink() {
        now = "promise 9, II: THEN CLAQUES: each drinks as much as it does, all the WATER at most";
        int[][] all = {{0, 0, 0}, {1, 0, 1}, {2, 0, 2}, {3, 0, 3}, {4, 1, 3}, {9, 6, 3}};
        for (int[] a : all) {
            SluicePit x = pit(STILL + "claque at 0 drinks 3;water " + a[0] + " at 0;");
            deep(x, 1, a[1], 0);
            due("drunk", x.sums(1, 2), a[2]);
        }
        // behind what runs out: 4: out 2: drunk 2; 6: 3; 8: 4, 1 left
        one("claque at 1 drinks 3;", 0, 4, 0, 0);
        one("claque at 1 drinks 3;", 0, 6, 0, 0);
        one("claque at 1 drinks 3;", 0, 8, 0, 1);
        // behind what flows
        one("claque at 0 drinks 3;", 8, 0, 1, 2);
    }

    private static void claquesInOrder() {
        now = "promise 9, II: CLAQUES, as they are told";
        int[][] all = {{3, 0, 3}, {4, 0, 4}, {5, 0, 5}, {6, 1, 5}, {12, 7, 5}};
        for (int[] a : all) {
            for (String two : new String[] {"claque at 0 drinks 1;claque at 0 drinks 4;", "claque at 0 drinks 4;claque at 0 drinks 1;"}) {
                SluicePit x = pit("river 2;bed 9 at 1;water 3 at 1;" + two + "water " + a[0] + " at 0;");
                due("deep", x.deep(0, 1), a[1]);
                due("drunk", x.sums(1, 2), a[2]);
            }
        }
        SluicePit y = pit(STILL + "water 9 at 0;water 18 at 1;claque at 0 drinks 1;claque at 1 drinks 2;claque at 0 drinks 3;claque at 1 drinks 4;");
        deep(y, 1, 5, 3);
        due("drunk", y.sums(1, 2), 10);
    }

    private static void bankSpills() {
        now = "promise 9, II: THEN what a CELL has above the bank is SPILT";
        int[][] all = {{4, 4, 0}, {5, 5, 0}, {6, 5, 1}, {7, 5, 2}, {10, 5, 5}};
        for (int[] a : all) {
            SluicePit x = pit(STILL + "bank 5;water " + a[0] + " at 0;");
            due("deep", x.deep(0, 1), a[1]);
            due("spilt", x.sums(1, 3), a[2]);
            due("spilt no more", x.sums(60, 3), a[2]);
            // the last CELL, behind what runs out
            SluicePit y = pit(STILL + "bank 5;water " + 2 * a[0] + " at 1;");
            due("deep", y.deep(1, 1), a[1]);
            due("spilt", y.sums(1, 3), a[2]);
        }
        // WATER counts, not the bed
        one("bed 9 at 0;bed 9 at 1;bank 5;", 5, 5, 5, 3);
        due("spilt", pit("river 2;bed 9 at 0;bed 9 at 1;bank 5;water 5 at 0;water 5 at 1;").sums(60, 3), 0);
        // behind the CLAQUES: 6 are told, 1 is drunk, none is spilt
        SluicePit z = pit(STILL + "bank 5;water 6 at 0;claque at 0 drinks 1;");
        due("spilt", z.sums(1, 3), 0);
        // all CELLS together
        SluicePit w = pit("river 3;bank 1;bed 9 at 1;bed 9 at 2;water 3 at 0;water 3 at 1;water 8 at 2;");
        deep(w, 1, 1, 1, 1);
        due("spilt", w.sums(1, 3), 2 + 2 + 3);
    }

    private static void bank99() {
        now = "promise 9, II: a bank of 99, or none told";
        for (String bank : new String[] {"", "bank 99;", "bank 1;bank 99;"}) {
            for (int arms = 1; arms <= 2; arms++) {
                SluicePit x = pit("river 2;water 98 at 0;sluice 0;" + bank + "desk a arms " + arms + " plays d;desk b arms 1 plays t;");
                deep(x, 1, 99, 0);
                due("spilt", x.sums(1, 3), arms - 1);
            }
        }
        SluicePit y = pit("river 2;water 98 at 0;sluice 0;bank 98;desk a arms 1 plays d;desk b arms 1 plays t;");
        deep(y, 1, 98, 0);
        due("spilt", y.sums(1, 3), 1);
    }

    private static void order() {
        now = "promise 9, II: FIRST the pit, THEN from CELL 0 on, THEN the last, THEN CLAQUES, THEN the bank, THEN BOATS";
        // 10: 5 flow; 5: out 2; 5 - 1, 3 - 1; 4 and 2: spilt 1; the boat of draft 3 is afloat in CELL 0 behind all of it, CELL 1 is too flat
        SluicePit x = pit("river 2;desk e arms 9 plays d;water 1 at 0;claque at 0 drinks 1;claque at 1 drinks 1;bank 3;boat a at 0 draft 3;boat b at 0 draft 2;");
        deep(x, 1, 3, 2);
        int[] due = {9, 2, 2, 1, 5, 0};
        for (int what = 0; what < 6; what++) due("sums(1, " + what + ")", x.sums(1, what), due[what]);
        due("boat a", x.boat(0, 1, false), 0);
        due("boat a", x.boat(0, 1, true), 0);
        due("boat b", x.boat(1, 1, false), 1);
        due("boat b", x.boat(1, 1, true), 0);
    }

    // ---- promises 11, 12

    private static void sumsUpTo() {
        now = "promise 11: NONE when there is none such, without a river, or for others";
        SluicePit x = pit("river 2;desk a arms 9 plays d;");
        for (int what = 0; what < 6; what++) {
            due("BAR 0", x.sums(0, what), 0);
            due("BAR 60", x.sums(60, what) >= 0, true);
            for (int bar : new int[] {-1, 61, LEAST, GREATEST}) due("sums " + bar, x.sums(bar, what), -1);
            due("without a river", new SluicePit().sums(0, what), -1);
        }
        for (int what : new int[] {-1, 6, LEAST, GREATEST}) {
            due("sums of " + what, x.sums(0, what), -1);
            due("sums of " + what, x.sums(60, what), -1);
        }
        now = "promise 11: Up to a BAR, it too";
        SluicePit y = pit("river 2;bank 3;water 1 at 1;desk a arms 9 plays rdrd;desk b arms 1 plays rttr;claque at 0 drinks 1;");
        // BAR 1: 0 1; 2: 9 1: 4: 5 5: out 2: 4 3: spilt 1; 3: 3 3: out 1: 2 2; 4: 11 2: 4: 7 6: out 3: 6 3: spilt 3
        int[][] due = {{0, 0, 0, 0, 1, 0}, {0, 0, 0, 0, 1, 0}, {9, 2, 1, 1, 6, 1}, {9, 3, 2, 1, 4, 2}, {18, 6, 3, 4, 6, 2}};
        for (int b = 0; b < due.length; b++) for (int what = 0; what < 6; what++) due("sums " + b + " " + what, y.sums(b, what), due[b][what]);
    }

    private static void ledUpTo() {
        now = "promise 12: Inches LED to a DESK up to a BAR; NONE when there are none such";
        SluicePit x = pit("river 2;desk a arms 9 plays rdu;desk b arms 1 plays (dddddddddddd)times 5;");
        int[][] due = {{0, 0, 0}, {0, 1, 0}, {0, 2, 9}, {0, 3, 9}, {0, 60, 9}, {1, 0, 0}, {1, 1, 1}, {1, 59, 59}, {1, 60, 60}};
        for (int[] one : due) due("led " + one[0] + " " + one[1], x.led(one[0], one[1]), one[2]);
        for (int bar : new int[] {-1, 61, LEAST, GREATEST}) due("bar " + bar, x.led(0, bar), -1);
        for (int desk : new int[] {-1, 2, LEAST, GREATEST}) due("desk " + desk, x.led(desk, 1), -1);
        // what is spilt at once was led all the same
        SluicePit y = pit("river 2;bank 1;desk a arms 9 plays d;desk b arms 9 plays d;");
        due("led", y.led(0, 1), 9);
        due("led", y.led(1, 1), 9);
    }

    // ---- promises 13, 14

    private static void boatAground() {
        now = "promise 13, II: one that is AGROUND (its CELL's WATER is below its draft) stays";
        for (int w = 2; w <= 4; w++) {
            SluicePit x = pit(STILL + "water " + w + " at 0;water 99 at 1;boat a at 0 draft 3;");
            due("aground in BAR 0", x.boat(0, 0, true), w < 3 ? 1 : 0);
            due("BAR 0", x.boat(0, 0, false), 0);
            due("BAR 1", x.boat(0, 1, false), w < 3 ? 0 : 1);
            due("BAR 60", x.boat(0, 60, false), w < 3 ? 0 : 1);
            due("aground in BAR 1", x.boat(0, 1, true), w < 3 ? 1 : 0);
            due("aground in BAR 60", x.boat(0, 60, true), 1);
        }
        // WATER of that BAR, not of the one ahead: 4 sink to 2
        SluicePit y = pit("river 2;water 4 at 0;boat a at 0 draft 3;");
        due("afloat", y.boat(0, 0, true), 0);
        due("aground", y.boat(0, 1, true), 1);
        due("stays", y.boat(0, 1, false), 0);
        // and 0 rise to 3
        SluicePit z = pit(STILL + "water 6 at 1;desk e arms 3 plays d;boat a at 0 draft 3;");
        due("aground", z.boat(0, 0, true), 1);
        due("goes", z.boat(0, 1, false), 1);
    }

    private static void boatGoes() {
        now = "promise 13, II: else it goes to the next CELL, if there is one with WATER not below its draft";
        // out: 4: 2; 5: 3; 6: 3; 7: 4
        int[][] all = {{4, 0}, {5, 1}, {6, 1}, {7, 1}};
        for (int[] a : all) {
            SluicePit x = pit(STILL + "water 9 at 0;water " + a[0] + " at 1;boat a at 0 draft 3;");
            due("BAR 1 of " + a[0], x.boat(0, 1, false), a[1]);
            due("afloat", x.boat(0, 1, true), 0);
        }
        // one CELL a BAR; others in the way count for nothing
        StringBuilder b = new StringBuilder("river 12;boat a at 0 draft 1;boat b at 0 draft 1;boat c at 1 draft 1;boat d at 11 draft 1;");
        for (int c = 0; c < 12; c++) b.append("water 99 at ").append(c).append(";");
        SluicePit y = pit(b.toString());
        for (int bar = 0; bar <= 13; bar++) {
            int[] due = {Math.min(11, bar), Math.min(11, bar), Math.min(11, bar + 1), 11};
            for (int boat = 0; boat < 4; boat++) due("boat " + boat + " in " + bar, y.boat(boat, bar, false), due[boat]);
        }
        // a bed counts for nothing
        SluicePit z = pit("river 2;bed 9 at 1;water 3 at 0;water 6 at 1;boat a at 0 draft 3;");
        due("BAR 1", z.boat(0, 1, false), 1);
    }

    private static void boatLast() {
        now = "promise 13, II: if there is one (no CELL behind the last)";
        SluicePit x = pit("river 2;water 99 at 1;boat a at 1 draft 1;boat b at 1 draft 99;boat c at 1 draft 50;");
        for (int boat = 0; boat < 3; boat++) {
            due("BAR 0", x.boat(boat, 0, false), 1);
            due("afloat", x.boat(boat, 0, true), 0);
            due("BAR 60", x.boat(boat, 60, false), 1);
        }
        due("a in 60", x.boat(0, 60, true), 0);
        due("b in 1", x.boat(1, 1, true), 1);
        due("c in 1", x.boat(2, 1, true), 0);
        due("c in 2", x.boat(2, 2, true), 1);
    }

    private static void boatSluice() {
        now = "promise 13, II: and it is not over a sluice when some DESK trills in this BAR";
        String text = "water 9 at 0;water 9 at 1;water 99 at 2;boat a at 0 draft 1;boat b at 1 draft 1;desk q arms 1 plays r;desk p arms 1 plays ";
        int[][] none = {{1, 2}, {2, 2}};
        boats(pit("river 3;bed 9 at 2;" + text + "t;"), none);
        boats(pit("river 3;bed 9 at 2;sluice 0;sluice 1;" + text + "r;"), none);
        boats(pit("river 3;bed 9 at 2;sluice 0;" + text + "t;"), new int[][] {{0, 2}, {1, 2}, {2, 2}});
        boats(pit("river 3;bed 9 at 2;sluice 1;" + text + "t;"), new int[][] {{1, 1}, {2, 2}});
        boats(pit("river 3;bed 9 at 2;sluice 1;sluice 0;" + text + "tt;"), new int[][] {{0, 1}, {0, 1}, {1, 2}, {2, 2}});
        boats(pit("river 3;bed 9 at 2;sluice 1;" + text + "rtt;"), new int[][] {{1, 2}, {1, 2}, {1, 2}, {2, 2}});
    }

    // Where both boats are in BARS 1, 2 ..
    private static void boats(SluicePit x, int[][] due) {
        for (int b = 0; b < due.length; b++) for (int boat = 0; boat < 2; boat++) due("boat " + boat + " in " + (b + 1), x.boat(boat, b + 1, false), due[b][boat]);
    }

    private static void boatNone() {
        now = "promise 13: NONE when there are none such";
        SluicePit x = pit("river 2;boat a at 1 draft 1;boat b at 0 draft 1;");
        for (boolean aground : new boolean[] {false, true}) {
            due("BAR 0", x.boat(1, 0, aground), aground ? 1 : 0);
            due("BAR 60", x.boat(1, 60, aground), aground ? 1 : 0);
            for (int bar : new int[] {-1, 61, LEAST, GREATEST}) due("bar " + bar, x.boat(1, bar, aground), -1);
            for (int boat : new int[] {-1, 2, LEAST, GREATEST}) due("boat " + boat, x.boat(boat, 0, aground), -1);
        }
    }

    private static void firstBars() {
        now = "promise 14: the first BAR in which it is AGROUND (what 0), in which it is in the last CELL (1)";
        SluicePit x = pit("river 2;water 5 at 0;boat a at 0 draft 6;boat b at 0 draft 5;boat c at 1 draft 1;boat d at 0 draft 99;");
        // 3 1; 2 1
        int[][] due = {{0, -1, 6}, {1, -1, 5}, {0, 0, 1}, {0, -1, 99}};
        for (int boat = 0; boat < 4; boat++) for (int what = 0; what < 3; what++) due("first " + boat + " " + what, x.first(boat, what), due[boat][what]);
        // in BAR 60, in no BAR
        SluicePit y = pit(STILL + "water 2 at 0;boat a at 0 draft 2;boat b at 0 draft 1;desk d arms 9 plays t;claque at 1 drinks 9;");
        due("afloat in all BARS", y.first(0, 0), -1);
        due("never there", y.first(0, 1), -1);
        SluicePit z = pit("river 2;bed 9 at 0;bed 9 at 1;boat a at 0 draft 4;water 1 at 1;desk d arms 9 plays r;");
        z.mark(0, 60, 60, true);
        // 9 above 1: 4 flow: 5 and 5: out 2: 3
        due("never there", z.first(0, 1), -1);
        z.mark(0, 59, 59, true);
        // 8 above ..: in BAR 60 14 above 3: 5: 9 and 8: out 4: 4
        due("in BAR 60", z.first(0, 1), 60);
        due("in BAR 0", z.first(0, 0), 0);
        SluicePit w = pit("river 2;water 1 at 1;boat a at 1 draft 1;sluice 0;claque at 0 drinks 9;desk d arms 1 plays r;");
        due("never", w.first(0, 0), -1);
        due("in BAR 0", w.first(0, 1), 0);
    }

    private static void firstNone() {
        now = "promise 14: NONE when there is none such, or for others";
        SluicePit x = pit("river 2;boat a at 1 draft 1;boat b at 0 draft 7;");
        due("the last", x.first(1, 2), 7);
        due("in the last CELL", x.first(0, 1), 0);
        for (int what : new int[] {-1, 3, LEAST, GREATEST}) for (int boat = 0; boat < 2; boat++) due("what " + what, x.first(boat, what), -1);
        for (int boat : new int[] {-1, 2, LEAST, GREATEST}) for (int what = 0; what < 3; what++) due("boat " + boat, x.first(boat, what), -1);
    }

    // ---- promise 15

    private static void millTurns() {
        now = "promise 15, II: A MILL TURNS in a BAR, if its CELL's WATER then is not below what it needs";
        for (int w = 2; w <= 4; w++) {
            SluicePit x = pit(STILL + "water " + w + " at 0;mill a at 0 needs 3;mill b at 1 needs 1;");
            due("BAR 0", x.turning(0, 0), w < 3 ? 0 : 1);
            due("BAR 60", x.turning(0, 60), w < 3 ? 0 : 61);
            due("a dry one", x.turning(1, 60), 0);
        }
        due("99", pit(STILL + "water 99 at 0;mill a at 0 needs 99;").turning(0, 0), 1);
        due("98", pit(STILL + "water 98 at 0;mill a at 0 needs 99;").turning(0, 0), 0);
    }

    private static void millUpTo() {
        now = "promise 15: In how many BARS, up to one, it too (BAR 0 counts)";
        // BARS 0 ..: 0 3 3 4 4 5; CELL 1: 8 4 2 1 1 1
        SluicePit x = pit("river 2;bed 9 at 1;water 8 at 1;desk d arms 1 plays rrdrd;desk e arms 3 plays d;mill a at 0 needs 4;mill b at 1 needs 2;");
        int[] a = {0, 0, 0, 1, 2, 3};
        int[] b = {1, 2, 3, 3, 3, 3};
        for (int bar = 0; bar < 6; bar++) {
            due("a up to " + bar, x.turning(0, bar), a[bar]);
            due("b up to " + bar, x.turning(1, bar), b[bar]);
        }
        due("a up to 59", x.turning(0, 59), 57);
        due("a up to 60", x.turning(0, 60), 58);
        for (int bar : new int[] {-1, 61, LEAST, GREATEST}) due("bar " + bar, x.turning(0, bar), -1);
        for (int mill : new int[] {-1, 2, LEAST, GREATEST}) due("mill " + mill, x.turning(mill, 0), -1);
    }

    // ---- promises 16, 18

    private static void marks() {
        now = "promise 16: A DESK's BARS from one on up to another one (1 .. 60) are rests, or downs: how many were otherwise";
        SluicePit x = pit("river 2;desk a arms 1 plays durt;desk b arms 1 plays t;");
        due("one, a down already", x.mark(0, 1, 1, true), 0);
        due("one, a rest already", x.mark(0, 3, 3, false), 0);
        due("an up", x.mark(0, 2, 2, true), 1);
        acts(x, 0, "ddrt");
        due("the last", x.mark(0, 4, 4, false), 1);
        acts(x, 0, "ddrr");
        due("all", x.mark(0, 1, 4, true), 2);
        acts(x, 0, "dddd");
        due("all to 60", x.mark(1, 1, 60, true), 60);
        acts(x, 1, "d".repeat(60));
        due("60 alone", x.mark(1, 60, 60, false), 1);
        due("59 and 60", x.mark(1, 59, 60, false), 1);
        due("bars", x.desk(1, -1), 60);
        due("1 to 60", x.mark(1, 1, 60, false), 58);
        acts(x, 1, "r".repeat(60));
        acts(x, 0, "dddd");
        due("has(9)", x.has(9), 9);
        due("came", x.sums(60, 0), 4);
    }

    private static void marksBetween() {
        now = "promise 16: (Its PART has as many BARS as that other one at least then, rests between.)";
        SluicePit x = pit("river 2;desk a arms 1 plays ddd;");
        due("at its end", x.mark(0, 3, 3, false), 1);
        acts(x, 0, "ddr");
        due("just behind it", x.mark(0, 4, 4, true), 1);
        acts(x, 0, "ddrd");
        due("over it", x.mark(0, 4, 6, true), 2);
        acts(x, 0, "ddrddd");
        due("one between", x.mark(0, 8, 9, true), 2);
        acts(x, 0, "ddrdddrdd");
        due("rests behind", x.mark(0, 11, 12, false), 0);
        acts(x, 0, "ddrdddrddrrr");
        due("ahead of its end it stays as long", x.mark(0, 1, 2, false), 2);
        acts(x, 0, "rrrdddrddrrr");
        due("60", x.mark(0, 60, 60, false), 0);
        due("bars", x.desk(0, -1), 60);
        // rests between, not what stood there in a longer PART
        SluicePit y = pit("river 2;desk a arms 1 plays tttttttttttt;");
        due("teach", teach(y, 0, "u"), 1);
        due("mark", y.mark(0, 10, 10, true), 1);
        acts(y, 0, "urrrrrrrrd");
        due("undo", y.undo(), true);
        due("undo", y.undo(), true);
        acts(y, 0, "tttttttttttt");
        due("on", on(y, 0, check(0)), true);
        due("mark of a PART without a BAR", y.mark(0, 3, 3, true), 1);
        acts(y, 0, "rrd");
    }

    private static void marksRefused() {
        now = "promise 16: NONE, doing nothing, when something can't be";
        int[][] all = {{0, 0, 1}, {0, 0, 0}, {0, 1, 0}, {0, 2, 1}, {0, 60, 59}, {0, 60, 61}, {0, 61, 61}, {0, 1, 61}, {0, -1, 60}, {0, -1, -1},
            {-1, 1, 1}, {2, 1, 1}, {8, 1, 1}, {0, LEAST, 1}, {0, 1, GREATEST}, {0, GREATEST, LEAST}, {GREATEST, 1, 1}, {LEAST, 1, 1}};
        SluicePit x = pit("river 2;desk a arms 1 plays du;desk b arms 1 plays r;");
        for (int[] one : all) {
            for (boolean down : new boolean[] {false, true}) due("mark " + one[0] + " " + one[1] + " " + one[2], x.mark(one[0], one[1], one[2], down), -1);
        }
        due("has(9)", x.has(9), 0);
        acts(x, 0, "du");
        acts(x, 1, "r");
        due("undo", x.undo(), false);
    }

    private static void acts20() {
        now = "promise 18, II: ACTS: The last 20 can be undone";
        for (int n = 0; n <= 43; n++) {
            if (n > 3 && n < 18 || n > 23 && n < 39) continue;
            SluicePit x = pit("river 2;desk a arms 1 plays u;desk b arms 1 plays u;");
            for (int k = 1; k <= n; k++) due("mark", x.mark(k % 2, k, k, true), 1);
            int kept = Math.min(20, n);
            due("has(9) behind " + n, x.has(9), kept);
            for (int k = n; k > n - kept; k--) {
                due("bar " + k, x.desk(k % 2, k), 0);
                due("undo", x.undo(), true);
                due("has(9)", x.has(9), k - 1 - (n - kept));
                due("bars", x.desk(k % 2, -1), Math.max(1, k - 2));
                due("came", x.sums(60, 0), k - 1);
            }
            due("undo behind all", x.undo(), false);
            due("has(9)", x.has(9), 0);
            due("came", x.sums(60, 0), n - kept);
            due("an act anew", x.mark(0, 60, 60, true), 1);
            due("has(9)", x.has(9), 1);
            due("undo", x.undo(), true);
            due("undo behind all", x.undo(), false);
        }
    }

    private static void actsOfAll() {
        now = "promise 18, II: ACTS: BARS are rests, are downs; a DESK's PART is told anew";
        SluicePit x = pit("river 2;desk a arms 1 plays durt;desk b arms 2 plays u;");
        x.mark(0, 2, 3, false);
        x.mark(0, 4, 6, true);
        teach(x, 0, "tt");
        teach(x, 1, "(dddddddddddd)times 5");
        // what was refused is no ACT
        x.mark(0, 0, 1, true);
        teach(x, 0, "x");
        teach(x, 2, "d");
        due("has(9)", x.has(9), 4);
        due("undo", x.undo(), true);
        acts(x, 1, "u");
        due("undo", x.undo(), true);
        acts(x, 0, "drrddd");
        due("undo", x.undo(), true);
        acts(x, 0, "drrt");
        due("undo", x.undo(), true);
        acts(x, 0, "durt");
        due("undo", x.undo(), false);
        // an ACT by which nothing was otherwise is one, too
        due("mark", x.mark(0, 1, 1, true), 0);
        due("has(9)", x.has(9), 1);
        due("teach", teach(x, 0, "durt"), 4);
        due("has(9)", x.has(9), 2);
        // what is undone is no ACT: undone once more, the one ahead of it goes
        x.mark(1, 1, 1, true);
        due("undo", x.undo(), true);
        due("has(9)", x.has(9), 2);
        // the last of 60 BARS comes back
        teach(x, 1, "(rrrrrrrrrrrr)times 4 rrrrrrrrrrrt");
        teach(x, 1, "d");
        due("undo", x.undo(), true);
        due("bar 60", x.desk(1, 60), 3);
        due("bars", x.desk(1, -1), 60);
        due("trilled", x.sums(60, 5), 2);
        // and what it was ahead of an ACT in it
        due("mark", x.mark(1, 60, 60, true), 1);
        due("bar 60", x.desk(1, 60), 0);
        due("undo", x.undo(), true);
        due("bar 60", x.desk(1, 60), 3);
        due("mark", x.mark(1, 1, 1, true), 1);
        due("undo", x.undo(), true);
        due("bar 1", x.desk(1, 1), 2);
    }

    private static void sumsAnew() {
        now = "promise 11: Up to a BAR, behind an ACT, an undo, an image and another opera";
        String text = "river 2;bank 3;water 8 at 1;desk a arms 9 plays d;desk b arms 1 plays t;claque at 0 drinks 1;";
        SluicePit x = pit(text);
        int[] told = new int[6];
        for (int what = 0; what < 6; what++) told[what] = x.sums(60, what);
        due("came", told[0], 9);
        int[] from0 = {0, 0, 0, 0, 8, 0};
        for (int round = 0; round < 6; round++) {
            // what is supposed between leaves nothing in them
            x.encore(0, 3);
            wet(x, 0, 0);
            x.early(9, -1);
            if (round == 0) x.mark(0, 1, 1, true);
            if (round == 1) x.mark(0, 9, 9, false);
            if (round == 2) x.undo();
            if (round == 3) teach(x, 0, "dr");
            if (round == 4) on(x, 1, 0, 1, 3, check(1, 0, 1, 3));
            if (round == 5) opera(x, text);
            for (int what = 0; what < 6; what++) {
                due("BAR 0, round " + round, x.sums(0, what), from0[what]);
                due("BAR 60, round " + round, x.sums(60, what), told[what]);
            }
        }
    }

    private static void undoNothing() {
        now = "promise 18: false when none can be";
        SluicePit x = new SluicePit();
        due("without a river", x.undo(), false);
        due("opera", opera(x, "river 2;desk a arms 1 plays d;"), 2);
        due("behind opera()", x.undo(), false);
        x.mark(0, 1, 1, false);
        due("opera", opera(x, "river 2;desk a arms 1 plays u;"), 2);
        due("behind opera()", x.undo(), false);
        x.mark(0, 1, 1, false);
        due("opera with a FAULT", opera(x, "river 2"), -1);
        due("the act stays", x.undo(), true);
        x.mark(0, 1, 1, false);
        due("on", on(x, 1, 0, check(1, 0)), true);
        due("behind on()", x.undo(), false);
        acts(x, 0, "d");
    }
}
