/** Each promise of the document by its number: ordinary calls, the edges that it names, wrong calls. */
public final class PromiseTest extends Told {
    public static void main(String[] args) {
        p1();
        p2();
        p3();
        p4();
        p4Again();
        p4Words();
        p4Numbers();
        p4Names();
        p4Parts();
        p4Many();
        p5();
        p6();
        p7();
        p8();
        p9();
        p9Sluice();
        p9ClaquesAndBank();
        p10();
        p11();
        p12();
        p13();
        p14();
        p15();
        p16();
        p17();
        p18();
        p19();
        p20();
        p21();
        p22();
        p23();
        p24();
        p25();
        p26();
        p26Faults();
        p26Open();
        p27();
        p28();
        p29();
        close();
    }

    // ---- the promises

    private static void p1() {
        now = "promise 1";
        SluicePit x = new SluicePit();
        due("NONE", SluicePit.NONE, -1);
        due("NOTHING", SluicePit.NOTHING, NOTHING);
        for (int what = 0; what <= 9; what++) due("has " + what, x.has(what), what == 7 ? 99 : 0);
        due("deep", x.deep(0, 0), -1);
        due("sums", x.sums(0, 4), -1);
        due("desk", x.desk(0, 0), -1);
        due("boat", x.boat(0, 0, false), -1);
        due("octet", x.octet(0), -1);
        due("the tape", x.end(1), false);
    }

    private static void p2() {
        now = "promise 2";
        SluicePit x = new SluicePit();
        for (int k = 1; k <= 80; k++) due("feed", x.feed(0x72697665, 0x7220323b, 0x20202020, 0x20202020, 0x20202020), 20 * k);
        due("feed of too many", x.feed(0, 0, 0, 0, 0), -1);
        due("end", x.end(1581), true);
        due("feed of too many", x.feed(0, 0, 0, 0, 0), -1);
        due("end", x.end(1580), true);
        due("feed again", x.feed(0, 0, 0, 0, 0), 1600);
        due("end", x.end(8), true);
        due("the highest byte first", x.opera(), 1);
        // bytes above 127 too
        due("feed", x.feed(0xfffefdfc, 0, 0, 0, 0), 20);
        due("end", x.end(2), true);
        due("wet", x.wet(), true);
    }

    private static void p3() {
        now = "promise 3";
        SluicePit x = new SluicePit();
        due("end(0)", x.end(0), true);
        due("end(-1)", x.end(-1), false);
        due("end(1)", x.end(1), false);
        x.feed(1, 2, 3, 4, 5);
        due("end(21)", x.end(21), false);
        due("end(least)", x.end(Integer.MIN_VALUE), false);
        due("end(20)", x.end(20), true);
        due("end(7)", x.end(7), true);
        due("end(8)", x.end(8), false);
        due("feed behind it", x.feed(1, 2, 3, 4, 5), 27);
    }

    private static void p4() {
        now = "promise 4";
        good("river 2;", 1);
        good(" \n river\n12 ; bank 1 ;\n", 2);
        SluicePit x = pit("river 2; water 9 at 0; desk a arms 1 plays d;");
        due("tape", tapeIsEmpty(x), true);
        due("wet", wet(x, 1, 1), true);
        due("mark", x.mark(0, 1, 3, true), 2);
        due("seed", x.seed(7), true);
        tape(x, "river 3; bed 1 at 7;");
        due("opera with a FAULT", x.opera(), -1);
        due("tape", tapeIsEmpty(x), true);
        due("CELLS stay", x.has(0), 2);
        due("the DESK stays", x.desk(0, -1), 3);
        due("ACTS stay", x.has(9), 1);
        due("what is wet stays", x.early(1, -1) >= 0, true);
        tape(x, "river 2; water 9 at 0; water 9 at 1; desk a arms 1 plays d;");
        due("opera", x.opera(), 4);
        due("no ACT", x.undo(), false);
        due("nothing is wet", x.early(1, -1), -1);
        due("has(8)", x.has(8), 1);
        // the seed stays: 7, not 1
        SluicePit y = pit("river 2; water 9 at 0; water 9 at 1; desk a arms 1 plays d;");
        y.seed(7);
        for (int i = 0; i < 4; i++) due("trout", x.trout(0, 50, 9), y.trout(0, 50, 9));
        // all that was told by the one ahead is gone
        tape(x, "river 3;");
        due("opera", x.opera(), 1);
        for (int what = 0; what <= 9; what++) due("has " + what, x.has(what), what == 0 ? 3 : what == 7 ? 99 : 0);
        deep(x, 0, 0, 0, 0);
        deep(x, 60, 0, 0, 0);
        due("boat", x.boat(0, 0, false), -1);
    }

    // Many calls on one object: nothing of an opera, a supposition or a fault is left for what comes behind.
    private static void p4Again() {
        now = "promise 4, one opera behind another";
        String big = "river 12; bed 9 at 0; bed 3 at 11; water 9 at 11; water 7 at 2; sluice 0; sluice 1; pit 11; bank 5; "
            + "desk a arms 9 plays (dt)times 9; desk b arms 9 plays dddd; boat c at 11 draft 1; boat d at 5 draft 1; mill e at 11 needs 1; "
            + "claque at 11 drinks 9; claque at 0 drinks 9;";
        String small = "river 2; water 6 at 0; desk q arms 2 plays dr; boat z at 0 draft 4;";
        SluicePit x = pit(big);
        for (int round = 0; round < 3; round++) {
            due("stop", x.stop(0, 20, 1) >= -1, true);
            due("bring", x.bring(1, 20, 1) >= -1, true);
            tape(x, small);
            due("opera", x.opera(), 4);
            // 8: 4 flow, out 2; 4 above 2: 1, 3 and 3: out 1
            deep(x, 0, 6, 0);
            deep(x, 1, 4, 2);
            deep(x, 2, 3, 2);
            due("sluices", x.has(2), 0);
            due("bed", x.cell(0, 0), 0);
            due("bed", x.cell(1, 0), 0);
            due("sluice", x.cell(0, 1), 0);
            due("drunk", x.sums(60, 2), 0);
            due("spilt", x.sums(60, 3), 0);
            due("deep 11", ask(x, "most deep 11"), 0);
            due("deep 2", ask(x, "most deep 2"), 0);
            due("boat 1", ask(x, "most boat 1"), 0);
            due("boat 0", ask(x, "most boat 0"), 0);
            due("stop", x.stop(0, 1, 0), 1);
            due("encore", x.encore(0, 1), 0);
            // 6 without a d: 3 flow, out 1
            wet(x, 3, 2);
            due("early", x.early(1, -1), 1);
            due("early", x.early(1, 0), 1);
            due("mark behind a supposition", x.mark(0, 2, 2, true), 1);
            // 4 + 2: 6 above 2: 2 flow: 4 and 4: out 2
            deep(x, 2, 4, 2);
            tape(x, round == 0 ? big : small);
            due("opera", x.opera() > 0, true);
        }
    }

    private static void p4Words() {
        now = "promise 4, FAULT 1";
        bad("", 1, 0);
        bad("  \n", 1, 3);
        bad("River 2;", 1, 0);
        bad(";", 1, 0);
        bad("rive 2;", 1, 0);
        bad("rivers 2;", 1, 0);
        bad("bed 1 at 0;", 1, 0);
        bad("river", 1, 5);
        bad("river  ", 1, 7);
        bad("river 2", 1, 7);
        bad("river 2 ", 1, 8);
        bad("river 2 3;", 1, 8);
        bad("river2;", 1, 5);
        bad("river 2x;", 1, 7);
        bad("river ;", 1, 6);
        bad("river 2;;", 1, 8);
        bad("river 2;3;", 1, 8);
        bad("river 2;river 2;", 1, 8);
        bad("river 2;\tbank 9;", 1, 8);
        bad("river 2\r;", 1, 7);
        bad("river 2; bed 1 on 1;", 1, 15);
        bad("river 2; bed 1at 1;", 1, 14);
        bad("river 2; bed 1 at1;", 1, 17);
        bad("river 2; bank 9" + (char) 200 + ";", 1, 15);
        bad("river 2; claque a at 0 drinks 1;", 1, 16);
        bad("river 2; mill a at 0 draft 1;", 1, 21);
        bad("river 2; boat a at 0 needs 1;", 1, 21);
        bad("river 2; claque at 0 needs 1;", 1, 21);
        bad("river 2; desk a plays d;", 1, 16);
        bad("river 2; desk a arms 1 d;", 1, 23);
        bad("river 2; desk a arms 1plays d;", 1, 22);
        bad("river 2; pit 0, 1;", 1, 14);
        bad("river 2; times 2;", 1, 9);
        bad("river 2; bank 9; x", 1, 17);
        good("river 2;desk a arms 1 plays(d)times 2(u)times 3r;".replace("3r", "3 r"), 2);
        good("river 2;\nbed\n1\nat\n0\n;bank 9;", 3);
    }

    private static void p4Numbers() {
        now = "promise 4, FAULT 2";
        bad("river 1;", 2, 6);
        bad("river 0;", 2, 6);
        bad("river 13;", 2, 6);
        bad("river 9999;", 2, 6);
        bad("river 12345;", 1, 10);
        bad("river 00002;", 1, 10);
        good("river 0002;", 1);
        good("river 12;", 1);
        good("river 2; bed 0 at 0; bed 9 at 1;", 3);
        bad("river 2; bed 10 at 9;", 2, 13);
        bad("river 2; bed 9 at 2;", 2, 18);
        good("river 2; water 0 at 0; water 99 at 1;", 3);
        bad("river 2; water 100 at 1;", 2, 15);
        bad("river 2; water 99 at 2;", 2, 21);
        bad("river 2; pit 2;", 2, 13);
        good("river 2; pit 1; pit 0;", 3);
        bad("river 2; sluice 1;", 2, 16);
        good("river 3; sluice 1; sluice 0;", 3);
        bad("river 3; sluice 1; sluice 1;", 2, 26);
        bad("river 3; sluice 1; sluice 2;", 2, 26);
        bad("river 2; desk a arms 0 plays d;", 2, 21);
        bad("river 2; desk a arms 10 plays d;", 2, 21);
        good("river 2; desk a arms 9 plays d;", 2);
        bad("river 2; mill a at 2 needs 1;", 2, 19);
        bad("river 2; mill a at 1 needs 0;", 2, 27);
        bad("river 2; mill a at 1 needs 100;", 2, 27);
        good("river 2; mill a at 1 needs 99;", 2);
        bad("river 2; boat a at 2 draft 1;", 2, 19);
        bad("river 2; boat a at 1 draft 0;", 2, 27);
        bad("river 2; boat a at 1 draft 100;", 2, 27);
        good("river 2; boat a at 1 draft 99;", 2);
        bad("river 2; claque at 2 drinks 1;", 2, 19);
        bad("river 2; claque at 1 drinks 0;", 2, 28);
        bad("river 2; claque at 1 drinks 10;", 2, 28);
        good("river 2; claque at 1 drinks 9;", 2);
        bad("river 2; bank 0;", 2, 14);
        bad("river 2; bank 100;", 2, 14);
        good("river 2; bank 99; bank 1;", 3);
        bad("river 2; bank 100x", 2, 14);
    }

    private static void p4Names() {
        now = "promise 4, FAULT 3 and NAMES";
        String own = "river bed at water desk arms plays pit sluice mill needs boat draft claque drinks bank times";
        for (String word : own.split(" ")) {
            bad("river 2; desk " + word + " arms 1 plays d;", 1, 14);
            bad("river 2; boat " + word + " at 1 draft 1;", 1, 14);
            bad("river 2; mill " + word + " at 1 needs 1;", 1, 14);
        }
        good("river 2; desk waterx arms 1 plays d; desk d arms 1 plays d; desk or arms 1 plays d;", 4);
        bad("river 2; desk 1 arms 1 plays d;", 1, 14);
        bad("river 2; desk A arms 1 plays d;", 1, 14);
        bad("river 2; desk aB arms 1 plays d;", 1, 15);
        bad("river 2; desk a1 arms 1 plays d;", 1, 15);
        bad("river 2; desk abcdefg arms 1 plays d;", 1, 20);
        bad("river 2; boat abcdefgh at 1 draft 1;", 1, 20);
        bad("river 2; mill abcdefghijklm at 1 needs 1;", 1, 20);
        good("river 2; desk abcdef arms 1 plays d; desk abcdeg arms 1 plays d; desk abcde arms 1 plays d;", 4);
        String three = "river 2; desk a arms 1 plays d; mill b at 0 needs 1; boat c at 0 draft 1; ";
        for (String name : new String[] {"a", "b", "c"}) {
            bad(three + "desk " + name + " arms 1 plays d;", 3, 79);
            bad(three + "mill " + name + " at 0 needs 1;", 3, 79);
            bad(three + "boat " + name + " at 0 draft 1;", 3, 79);
        }
        bad(three + "boat a", 3, 79);
        good(three + "boat ab at 0 draft 1; mill aa at 0 needs 1;", 6);
    }

    private static void p4Parts() {
        now = "promise 4, PARTS";
        String d = "river 2; desk a arms 1 plays ";
        good(d + "dddddddddddd;", 2);
        bad(d + "ddddddddddddd;", 1, 29);
        bad(d + "dx;", 1, 29);
        bad(d + "D;", 1, 29);
        bad(d + "d u x;", 1, 33);
        bad(d + "3;", 1, 29);
        bad(d + ";", 1, 29);
        bad(d, 1, 29);
        bad(d + "();", 1, 30);
        bad(d + "(d;", 1, 31);
        bad(d + "(d", 1, 31);
        bad(d + "d);", 1, 30);
        bad(d + "(d) 2;", 1, 33);
        bad(d + "(d) times;", 1, 38);
        bad(d + "(d) times2;", 1, 38);
        bad(d + "(d) times 2d;", 1, 40);
        bad(d + "(d) times 1;", 2, 39);
        bad(d + "(d) times 10;", 2, 39);
        bad(d + "(d) times 12345;", 1, 43);
        good(d + "(d) times 2;", 2);
        good(d + "(d) times 9;", 2);
        acts(pit(d + "d u (r(t)times 2 u) times 2 (dr)times 3;"), 0, "durtturttudrdrdr");
        acts(pit(d + "(((((d)times 2)times 2)times 2)times 2)times 2;"), 0, "d".repeat(32));
        bad(d + "((((((d", 4, 34);
        bad(d + "(((((d (", 4, 36);
        bad(d + "(d (d (d (d (d (d", 4, 44);
        good(d + "((((d)times 2)times 2)times 2)times 2 ((((d)times 2)times 2)times 2)times 2;", 2);
        // 60 BARS at most, told at the GROUP of the PART itself
        good(d + "(dddddddddddd) times 5;", 2);
        bad(d + "(dddddddddddd) times 5 d;", 5, 52);
        bad(d + "(dddddddddddd) times 6;", 5, 29);
        bad(d + "d (dddddddddddd) times 5;", 5, 31);
        bad(d + "d d ((dddddddddddd) times 3) times 2 x;", 5, 33);
        bad(d + "((dddddddddddd) times 9) times 1;", 2, 60);
        bad(d + "((dddddddddddd) times 9 x) times 2;", 1, 53);
        bad(d + "((dddddddddddd) times 9) times 2", 5, 29);
        bad(d + "(((((dddddddddddd)times 9)times 9)times 9)times 9)times 9;", 5, 29);
        bad(d + "(dddddddddddd) times 5 ddddddddddddd;", 1, 52);
        bad(d + "(dddddddddddd) times 5 d3", 5, 52);
    }

    private static void p4Many() {
        now = "promise 4, FAULT 5";
        StringBuilder b = new StringBuilder("river 6;");
        for (int k = 0; k < 8; k++) b.append("desk d").append((char) ('a' + k)).append(" arms 1 plays d;");
        good(b.toString(), 9);
        bad(b + " desk", 5, b.length() + 1);
        bad(b + "desk at", 5, b.length());
        String[] kinds = {"mill # at 0 needs 1;", "boat # at 0 draft 1;", "claque at 0 drinks 1;"};
        for (int kind = 0; kind < 3; kind++) {
            StringBuilder t = new StringBuilder("river 6;");
            for (int k = 0; k < 4; k++) t.append(kinds[kind].replace("#", "" + (char) ('a' + k)));
            good(t.toString(), 5);
            bad(t + kinds[kind].replace("#", "e"), 5, t.length());
            for (int other = 0; other < 3; other++) {
                if (other != kind) good(t + kinds[other].replace("#", "e"), 6);
            }
        }
        StringBuilder t = new StringBuilder("river 6;");
        for (int k = 1; k < 70; k++) t.append("pit 0;");
        good(t.toString(), 70);
        good(t + " \n ", 70);
        bad(t + "pit 0;", 5, t.length());
        bad(t + " !", 5, t.length() + 1);
        bad(t + " 7", 5, t.length() + 1);
        bad(t.substring(0, t.length() - 1), 1, t.length() - 1);
        bad(t.substring(0, t.length() - 6) + "pit 6;", 2, t.length() - 2);
    }

    private static void p5() {
        now = "promise 5";
        SluicePit x = new SluicePit();
        due("fault(0) ahead of any", x.fault(0), 0);
        due("fault(1) ahead of any", x.fault(1), -1);
        due("fault(2)", x.fault(2), -1);
        due("fault(-1)", x.fault(-1), -1);
        due("fault(far)", x.fault(Integer.MAX_VALUE), -1);
        tape(x, "river 1;");
        x.opera();
        due("fault(0)", x.fault(0), 2);
        due("fault(1)", x.fault(1), 6);
        due("teach without a DESK", teach(x, 0, "x"), -1);
        due("fault(0) stays", x.fault(0), 2);
        due("ask without a river", ask(x, "x"), NOTHING);
        due("fault(1) stays", x.fault(1), 6);
        tape(x, "river 2; desk a arms 1 plays d;");
        x.opera();
        due("fault(0)", x.fault(0), 0);
        due("fault(1)", x.fault(1), -1);
        teach(x, 0, "d d)");
        due("fault(0) of teach", x.fault(0), 1);
        due("fault(1) of teach", x.fault(1), 3);
        teach(x, 1, "d");
        due("fault(1) stays", x.fault(1), 3);
        teach(x, 0, "d");
        due("fault(0) of teach", x.fault(0), 0);
        ask(x, "first all )");
        due("fault(0) of ask", x.fault(0), 1);
        due("fault(1) of ask", x.fault(1), 10);
        wet(x, 1, 2, 3);
        on(x, 9);
        due("fault(1) stays", x.fault(1), 10);
        ask(x, "first all");
        due("fault(0) of ask", x.fault(0), 0);
        due("fault(1) of ask", x.fault(1), -1);
    }

    private static void p6() {
        now = "promise 6";
        SluicePit x = pit("river 5; sluice 3; sluice 0; pit 4; pit 2; bank 8; bank 7; desk a arms 1 plays du; desk b arms 2 plays rrr; "
            + "desk e arms 1 plays d; mill m at 0 needs 1; boat c at 1 draft 1; boat f at 2 draft 2; claque at 0 drinks 1; "
            + "claque at 0 drinks 1; claque at 1 drinks 2;");
        int[] due = {5, 3, 2, 1, 2, 3, 2, 7, 3, 0};
        for (int what = 0; what < 10; what++) due("has " + what, x.has(what), due[what]);
        due("has(-1)", x.has(-1), -1);
        due("has(10)", x.has(10), -1);
        due("mark", x.mark(2, 9, 9, false), 0);
        due("has(8)", x.has(8), 9);
        due("has(9)", x.has(9), 1);
        for (int k = 0; k < 30; k++) x.mark(2, 9, 9, false);
        due("has(9)", x.has(9), 20);
    }

    private static void p7() {
        now = "promise 7";
        SluicePit x = pit("river 2; desk abcxyz arms 1 plays d; mill m at 0 needs 1; mill qi at 0 needs 1; boat tug at 0 draft 1; desk z arms 1 plays d;");
        int[] name = {1, 2, 3, 24, 25, 26};
        for (int k = 0; k < 6; k++) due("letter(0, 0, " + k + ")", x.letter(0, 0, k), name[k]);
        due("letter(0, 0, 6)", x.letter(0, 0, 6), -1);
        due("letter(0, 0, -1)", x.letter(0, 0, -1), -1);
        due("letter(0, 1, 0)", x.letter(0, 1, 0), 26);
        due("letter(0, 1, 1)", x.letter(0, 1, 1), 0);
        due("letter(0, 1, 5)", x.letter(0, 1, 5), 0);
        due("letter(0, 1, 6)", x.letter(0, 1, 6), -1);
        due("letter(0, 2, 0)", x.letter(0, 2, 0), -1);
        due("letter(0, -1, 0)", x.letter(0, -1, 0), -1);
        due("letter(1, 0, 0)", x.letter(1, 0, 0), 13);
        due("letter(1, 1, 0)", x.letter(1, 1, 0), 17);
        due("letter(1, 1, 1)", x.letter(1, 1, 1), 9);
        due("letter(1, 2, 0)", x.letter(1, 2, 0), -1);
        due("letter(2, 0, 2)", x.letter(2, 0, 2), 7);
        due("letter(2, 0, 3)", x.letter(2, 0, 3), 0);
        due("letter(2, 1, 0)", x.letter(2, 1, 0), -1);
        due("letter(3, 0, 0)", x.letter(3, 0, 0), -1);
        due("letter(-1, 0, 0)", x.letter(-1, 0, 0), -1);
        // a shorter NAME in the same room leaves nothing of the longer one
        tape(x, "river 2; desk k arms 1 plays d;");
        x.opera();
        tape(x, "river 2; desk j arms 1 plays d;");
        x.opera();
        due("letter(0, 0, 0)", x.letter(0, 0, 0), 10);
        due("letter(0, 0, 1)", x.letter(0, 0, 1), 0);
        due("letter(1, 0, 0)", x.letter(1, 0, 0), -1);
    }

    private static void p8() {
        now = "promise 8";
        SluicePit x = pit("river 2; desk a arms 3 plays durt; desk b arms 9 plays (dddddddddddd) times 5;");
        acts(x, 0, "durt");
        due("arms", x.desk(0, 0), 3);
        due("behind the end", x.desk(0, 5), 2);
        due("behind the end", x.desk(0, 60), 2);
        due("bar 61", x.desk(0, 61), -1);
        due("bar -2", x.desk(0, -2), -1);
        due("arms", x.desk(1, 0), 9);
        due("bars", x.desk(1, -1), 60);
        due("bar 60", x.desk(1, 60), 0);
        due("bar 61", x.desk(1, 61), -1);
        due("desk 2", x.desk(2, 0), -1);
        due("desk -1", x.desk(-1, 0), -1);
    }

    private static void p9() {
        now = "promise 9";
        SluicePit x = pit("river 3; bed 9 at 0; bed 1 at 1; water 1 at 0; pit 1; desk a arms 7 plays rdu; desk b arms 2 plays rd;");
        deep(x, 0, 1, 0, 0);
        // 10 above 1: 4, but 1 is all its WATER; then 2 above 0: 1
        deep(x, 1, 0, 0, 1);
        // the pit: 9; CELL 0's 9 is below 10; 10 above 1: 4; out 2
        deep(x, 2, 0, 5, 3);
        // 6 above 3: 1; out 2
        deep(x, 3, 0, 4, 2);
        deep(x, 4, 0, 3, 2);
        deep(x, 5, 0, 2, 2);
        deep(x, 6, 0, 2, 1);
        deep(x, 7, 0, 1, 1);
        deep(x, 8, 0, 1, 1);
        deep(x, 60, 0, 1, 1);
        due("deep(3, 0)", x.deep(3, 0), -1);
        due("deep(-1, 0)", x.deep(-1, 0), -1);
        due("deep(0, 61)", x.deep(0, 61), -1);
        due("deep(0, -1)", x.deep(0, -1), -1);
        // BAR 0 is as told, above the bank too
        deep(pit("river 2; bank 3; water 99 at 0;"), 0, 99, 0);
        // one after the other: what flowed on flows further in the same BAR
        deep(pit("river 4; water 80 at 0;"), 1, 40, 20, 10, 5);
    }

    private static void p9Sluice() {
        now = "promise 9, sluices";
        String text = "river 3; water 8 at 0; water 8 at 1; sluice 0; desk a arms 1 plays trt; desk b arms 1 plays ut;";
        SluicePit x = pit(text);
        // 0: shut. 1: 4 flow; out 2
        deep(x, 1, 8, 4, 2);
        deep(x, 2, 8, 3, 2);
        deep(x, 3, 8, 3, 1);
        deep(x, 4, 6, 3, 2);
        // without a sluice a trill does nothing
        SluicePit y = pit(text.replace("sluice 0; ", ""));
        deep(y, 1, 8, 4, 2);
        deep(y, 2, 6, 4, 2);
        // over another sluice
        deep(pit(text.replace("sluice 0", "sluice 1")), 1, 8, 8, 0);
    }

    private static void p9ClaquesAndBank() {
        now = "promise 9, claques and the bank";
        SluicePit x = pit("river 2; water 3 at 0; claque at 0 drinks 1; claque at 0 drinks 9; claque at 1 drinks 2; desk a arms 5 plays d;");
        // 8: 4 flow, out 2; 4 - 1 - 3; 2 - 2
        deep(x, 1, 0, 0);
        due("drunk", x.sums(1, 2), 6);
        due("out", x.sums(1, 1), 2);
        SluicePit y = pit("river 2; water 99 at 0; bank 20; claque at 0 drinks 5; bed 9 at 1;");
        // 99 above 9: 45 flow, out 22; drunk 5: 49 and 23; spilt 29 and 3
        deep(y, 1, 20, 20);
        due("spilt", y.sums(1, 3), 32);
        due("drunk", y.sums(1, 2), 5);
        // 20 above 29: none; out 10; 15 and 10
        deep(y, 2, 15, 10);
        due("spilt", y.sums(2, 3), 32);
        // just at the bank nothing is spilt
        SluicePit z = pit("river 2; water 20 at 0; bank 10;");
        deep(z, 1, 10, 5);
        due("spilt", z.sums(60, 3), 0);
    }

    private static void p10() {
        now = "promise 10";
        SluicePit x = pit("river 3; bed 4 at 1; bed 6 at 1; bed 9 at 2; water 5 at 1; water 98 at 1; water 7 at 0; sluice 1; desk a arms 1 plays t;");
        int[][] due = {{0, 0, 7}, {6, 1, 98}, {9, 0, 0}};
        for (int c = 0; c < 3; c++) for (int what = 0; what < 3; what++) due("cell " + c + " " + what, x.cell(c, what), due[c][what]);
        due("cell(0, 3)", x.cell(0, 3), -1);
        due("cell(0, -1)", x.cell(0, -1), -1);
        due("cell(3, 0)", x.cell(3, 0), -1);
        due("cell(-1, 0)", x.cell(-1, 0), -1);
    }

    private static void p11() {
        now = "promise 11";
        SluicePit x = pit("river 2; water 6 at 0; bank 4; claque at 0 drinks 1; desk a arms 9 plays dtd; desk b arms 1 plays dt; desk c arms 1 plays rut;");
        // BAR 1: 16 and 0: 8 flow, out 4; 8 - 1; 7 and 4: spilt 3
        deep(x, 1, 4, 4);
        // BAR 2: 4 and 4: out 2; 4 - 1
        deep(x, 2, 3, 2);
        // BAR 3: 12 and 2: 5 flow; 7 and 7: out 3; 7 - 1; 6 and 4: spilt 2
        deep(x, 3, 4, 4);
        int[][] due = {{0, 0, 0, 0, 6, 0}, {10, 4, 1, 3, 8, 0}, {10, 6, 2, 3, 5, 1}, {19, 9, 3, 5, 8, 2}};
        for (int b = 0; b < 4; b++) for (int what = 0; what < 6; what++) due("sums " + b + " " + what, x.sums(b, what), due[b][what]);
        due("sums(60, 5)", x.sums(60, 5), 2);
        due("nothing is lost", x.sums(60, 4), 6 + x.sums(60, 0) - x.sums(60, 1) - x.sums(60, 2) - x.sums(60, 3));
        due("sums(0, 6)", x.sums(0, 6), -1);
        due("sums(0, -1)", x.sums(0, -1), -1);
        due("sums(61, 0)", x.sums(61, 0), -1);
        due("sums(-1, 0)", x.sums(-1, 0), -1);
        for (int what = 0; what < 6; what++) due("without a river", new SluicePit().sums(0, what), -1);
    }

    private static void p12() {
        now = "promise 12";
        SluicePit x = pit("river 2; desk a arms 3 plays dudtd; desk b arms 2 plays d;");
        int[] due = {0, 3, 3, 6, 6, 9, 9};
        for (int b = 0; b < due.length; b++) due("led(0, " + b + ")", x.led(0, b), due[b]);
        due("led(0, 60)", x.led(0, 60), 9);
        due("led(1, 60)", x.led(1, 60), 2);
        due("led(1, 0)", x.led(1, 0), 0);
        due("led(0, 61)", x.led(0, 61), -1);
        due("led(0, -1)", x.led(0, -1), -1);
        due("led(2, 0)", x.led(2, 0), -1);
        due("led(-1, 0)", x.led(-1, 0), -1);
    }

    private static void p13() {
        now = "promise 13";
        String text = "river 4; water 40 at 0; boat a at 0 draft 5; boat b at 0 draft 6; boat c at 3 draft 1; boat e at 1 draft 1;";
        SluicePit x = pit(text);
        deep(x, 1, 20, 10, 5, 3);
        deep(x, 2, 15, 10, 7, 3);
        int[][] at = {{0, 0, 3, 1}, {1, 1, 3, 2}, {2, 2, 3, 3}};
        int[][] aground = {{0, 0, 1, 1}, {0, 0, 0, 0}, {0, 0, 0, 0}};
        for (int bar = 0; bar < 3; bar++) {
            for (int boat = 0; boat < 4; boat++) {
                due("boat " + boat + " in " + bar, x.boat(boat, bar, false), at[bar][boat]);
                due("boat " + boat + " aground in " + bar, x.boat(boat, bar, true), aground[bar][boat]);
            }
        }
        due("boat(4)", x.boat(4, 0, false), -1);
        due("boat(-1)", x.boat(-1, 0, true), -1);
        due("bar 61", x.boat(0, 61, false), -1);
        due("bar -1", x.boat(0, -1, true), -1);
        // a sluice with a trill keeps the boat, whatever lies ahead; without a trill it does not
        SluicePit y = pit("river 2; water 9 at 0; water 9 at 1; bed 9 at 1; sluice 0; boat a at 0 draft 1; desk b arms 1 plays tt;");
        due("BAR 1", y.boat(0, 1, false), 0);
        due("BAR 2", y.boat(0, 2, false), 0);
        due("BAR 3", y.boat(0, 3, false), 1);
        SluicePit z = pit("river 2; water 9 at 0; water 9 at 1; bed 9 at 1; boat a at 0 draft 1; desk b arms 1 plays tt;");
        due("no sluice", z.boat(0, 1, false), 1);
        // one aground stays, though the next CELL is deep
        SluicePit w = pit("river 2; water 90 at 1; boat a at 0 draft 9;");
        due("aground", w.boat(0, 1, true), 1);
        due("stays", w.boat(0, 3, false), 0);
    }

    private static void p14() {
        now = "promise 14";
        SluicePit x = pit("river 3; water 40 at 0; boat a at 0 draft 5; boat b at 0 draft 99; boat c at 2 draft 3; boat e at 2 draft 1;");
        // 20 10 5; 15 10 5; 13 9 4
        due("a aground", x.first(0, 0), 3);
        due("a last", x.first(0, 1), 2);
        due("a draft", x.first(0, 2), 5);
        due("b aground", x.first(1, 0), 0);
        due("b last", x.first(1, 1), -1);
        due("b draft", x.first(1, 2), 99);
        due("c aground", x.first(2, 0), 0);
        due("c last", x.first(2, 1), 0);
        due("what 3", x.first(0, 3), -1);
        due("what -1", x.first(0, -1), -1);
        due("boat 4", x.first(4, 0), -1);
        due("boat 4", x.first(4, 2), -1);
        due("boat -1", x.first(-1, 1), -1);
        // in BAR 60
        SluicePit late = pit("river 2; boat a at 0 draft 2; desk e arms 9 plays r;");
        late.mark(0, 60, 60, true);
        due("last in BAR 60", late.first(0, 1), 60);
        late.undo();
        due("never", late.first(0, 1), -1);
        // never aground
        due("never", pit("river 2; water 1 at 1; boat a at 1 draft 1;").first(0, 0), -1);
    }

    private static void p15() {
        now = "promise 15";
        SluicePit x = pit("river 2; water 8 at 0; mill a at 0 needs 4; mill b at 1 needs 2; mill c at 0 needs 99;");
        // 8 0; 4 2; 3 2; 3 1; 2 1; 2 1 ...
        int[] a = {1, 2, 2, 2, 2};
        int[] b = {0, 1, 2, 2, 2};
        for (int bar = 0; bar < 5; bar++) {
            due("a up to " + bar, x.turning(0, bar), a[bar]);
            due("b up to " + bar, x.turning(1, bar), b[bar]);
            due("c up to " + bar, x.turning(2, bar), 0);
        }
        due("all BARS", pit("river 2; water 1 at 0; mill a at 0 needs 1;").turning(0, 60), 61);
        due("mill 3", x.turning(3, 0), -1);
        due("mill -1", x.turning(-1, 0), -1);
        due("bar 61", x.turning(0, 61), -1);
        due("bar -1", x.turning(0, -1), -1);
    }

    private static void p16() {
        now = "promise 16";
        SluicePit x = pit("river 2; desk a arms 1 plays durt; desk b arms 1 plays d;");
        due("rests", x.mark(0, 1, 3, false), 2);
        acts(x, 0, "rrrt");
        due("downs", x.mark(0, 3, 4, true), 2);
        acts(x, 0, "rrdd");
        due("downs", x.mark(0, 4, 5, true), 1);
        acts(x, 0, "rrddd");
        due("rests between", x.mark(0, 8, 8, true), 1);
        acts(x, 0, "rrdddrrd");
        due("rests behind the end", x.mark(0, 9, 10, false), 0);
        acts(x, 0, "rrdddrrdrr");
        acts(x, 1, "d");
        due("has(9)", x.has(9), 5);
        due("led", x.led(0, 60), 4);
        due("all", x.mark(1, 1, 60, true), 59);
        due("bars", x.desk(1, -1), 60);
        due("came", x.sums(60, 0), 64);
        // rests between, where a longer PART stood
        SluicePit y = pit("river 2; desk a arms 1 plays dddddd;");
        due("teach", teach(y, 0, "u"), 1);
        due("mark", y.mark(0, 5, 5, true), 1);
        acts(y, 0, "urrrd");
        int kept = x.has(9);
        int[][] bad = {{2, 1, 1}, {-1, 1, 1}, {0, 0, 1}, {0, 2, 1}, {0, 1, 61}, {0, 61, 61}, {0, -1, 1}, {0, 1, Integer.MAX_VALUE}, {0, Integer.MIN_VALUE, 3}};
        for (int[] b : bad) {
            due("mark " + b[0] + " " + b[1] + " " + b[2], x.mark(b[0], b[1], b[2], true), -1);
            due("mark " + b[0] + " " + b[1] + " " + b[2], x.mark(b[0], b[1], b[2], false), -1);
        }
        due("has(9)", x.has(9), kept);
        acts(x, 0, "rrdddrrdrr");
    }

    private static void p17() {
        now = "promise 17";
        SluicePit x = pit("river 2; desk a arms 1 plays dddd; desk b arms 1 plays d;");
        due("teach", teach(x, 1, " (du)times 2 t\n"), 5);
        acts(x, 1, "dudut");
        acts(x, 0, "dddd");
        due("tape", tapeIsEmpty(x), true);
        due("came", x.sums(60, 0), 6);
        due("teach", teach(x, 0, "r"), 1);
        acts(x, 0, "r");
        due("came", x.sums(60, 0), 2);
        due("has(9)", x.has(9), 2);
        Object[][] bad = {{"", 1, 0}, {" ", 1, 1}, {"x", 1, 0}, {"d ;", 1, 2}, {"d)", 1, 1}, {"d 3", 1, 2}, {"(d)times 1", 2, 9},
            {"((((((d", 4, 5}, {"(dddddddddddd)times 6", 5, 0}, {"d (dddddddddddd)times 5 x", 5, 2}, {"d times 2", 1, 2}};
        for (Object[] b : bad) {
            due("teach " + b[0], teach(x, 0, (String) b[0]), -1);
            due("fault(0) of " + b[0], x.fault(0), (int) b[1]);
            due("fault(1) of " + b[0], x.fault(1), (int) b[2]);
            due("tape", tapeIsEmpty(x), true);
            due("has(9)", x.has(9), 2);
            acts(x, 0, "r");
        }
        for (int desk : new int[] {2, -1, 8, Integer.MAX_VALUE}) {
            due("teach " + desk, teach(x, desk, "d"), -1);
            due("tape", tapeIsEmpty(x), true);
        }
        due("has(9)", x.has(9), 2);
        due("teach 60", teach(x, 0, "(dddddddddddd)times 5"), 60);
        due("fault(0)", x.fault(0), 0);
        due("came", x.sums(60, 0), 62);
    }

    private static void p18() {
        now = "promise 18";
        SluicePit x = pit("river 2; desk a arms 1 plays du; desk b arms 1 plays d;");
        due("undo of nothing", x.undo(), false);
        x.mark(0, 4, 4, true);
        teach(x, 1, "ttt");
        x.mark(0, 1, 2, false);
        acts(x, 0, "rrrd");
        due("undo", x.undo(), true);
        acts(x, 0, "durd");
        acts(x, 1, "ttt");
        due("trills", x.sums(60, 5), 3);
        due("undo", x.undo(), true);
        acts(x, 1, "d");
        due("trills", x.sums(60, 5), 0);
        due("undo", x.undo(), true);
        acts(x, 0, "du");
        due("came", x.sums(60, 0), 2);
        due("undo of nothing", x.undo(), false);
        // the 60th BAR, too
        teach(x, 0, "(dddddddddddt)times 5");
        x.mark(0, 60, 60, true);
        teach(x, 0, "u");
        due("undo", x.undo(), true);
        due("bar 60", x.desk(0, 60), 0);
        due("undo", x.undo(), true);
        due("bar 60", x.desk(0, 60), 3);
        due("undo", x.undo(), true);
        acts(x, 0, "du");
        // the last 20 alone
        for (int k = 1; k <= 25; k++) x.mark(0, k, k, k % 2 == 0);
        due("bars", x.desk(0, -1), 25);
        for (int k = 24; k >= 5; k--) {
            due("undo", x.undo(), true);
            due("bars", x.desk(0, -1), k);
            due("has(9)", x.has(9), k - 5);
        }
        due("undo of nothing", x.undo(), false);
        due("bars", x.desk(0, -1), 5);
        x.mark(0, 1, 1, true);
        due("undo of the latest", x.undo(), true);
        due("bar 1", x.desk(0, 1), 2);
        due("undo of nothing", x.undo(), false);
    }

    private static final String REST = "river 2; boat z at 0 draft 4; desk a arms 2 plays d; desk b arms 5 plays d; desk c arms 5 plays d; desk e arms 5 plays rt; desk f arms 1 plays d;";

    private static void p19() {
        now = "promise 19";
        SluicePit x = pit(REST);
        // 13: 6 flow, out 3: 7 and 3. Without b 8: 4 and 2; without b and a 6: 3 and 2; without b and f 7: 4 and 2
        deep(x, 1, 7, 3);
        due("stop", x.stop(0, 1, 0), 2);
        due("bits: a and b", x.stop(0, 1, 1), 3);
        due("in BAR 0 it is aground", x.stop(0, 0, 0), 0);
        due("bits", x.stop(0, 0, 1), 0);
        due("what 2", x.stop(0, 1, 2), -1);
        due("what -1", x.stop(0, 1, -1), -1);
        due("boat 1", x.stop(1, 1, 0), -1);
        due("boat -1", x.stop(-1, 1, 0), -1);
        due("bar 61", x.stop(0, 61, 0), -1);
        due("bar -1", x.stop(0, -1, 0), -1);
        // one of four is enough: the least bits of like ones
        SluicePit y = pit("river 2; boat z at 0 draft 3; desk a arms 1 plays d; desk b arms 2 plays d; desk c arms 2 plays d;");
        // 5: 2 flow: 3 and 1; 4: 2 and 1: aground
        due("stop", y.stop(0, 1, 0), 1);
        due("bits", y.stop(0, 1, 1), 1);
        due("BAR 60", y.stop(0, 60, 0), 0);
        // a silent DESK does not trill either
        SluicePit z = pit("river 2; water 8 at 0; sluice 0; boat z at 0 draft 8; desk a arms 1 plays t; desk b arms 1 plays r;");
        due("afloat", z.boat(0, 1, true), 0);
        due("stop", z.stop(0, 1, 0), 1);
        due("bits", z.stop(0, 1, 1), 1);
        // none do
        SluicePit w = pit("river 2; water 9 at 0; boat z at 0 draft 2; desk a arms 1 plays d;");
        due("none do", w.stop(0, 1, 0), -1);
        due("none do", w.stop(0, 1, 1), -1);
        // without DESKS
        due("nobody", pit("river 2; boat z at 0 draft 2;").stop(0, 60, 0), 0);
    }

    private static void p20() {
        now = "promise 20";
        SluicePit x = pit("river 2; boat z at 0 draft 2; desk a arms 1 plays d; desk b arms 7 plays d; desk c arms 8 plays d; desk e arms 1 plays d;");
        // 8: 4, out 2: 4 and 2. 7: 3, out 1: 4 and 2 too. 6: 3, out 1
        due("bring", x.bring(0, 1, 0), 1);
        due("bits: b", x.bring(0, 1, 1), 2);
        due("in BAR 0 it is not", x.bring(0, 0, 0), -1);
        due("in BAR 0 it is not", x.bring(0, 0, 1), -1);
        due("what 2", x.bring(0, 1, 2), -1);
        due("what -1", x.bring(0, 1, -1), -1);
        due("boat 1", x.bring(1, 1, 0), -1);
        due("bar 61", x.bring(0, 61, 0), -1);
        due("bar -1", x.bring(0, -1, 0), -1);
        SluicePit y = pit("river 2; boat z at 0 draft 2; desk a arms 3 plays d; desk b arms 3 plays d; desk c arms 3 plays d;");
        due("two", y.bring(0, 1, 0), 2);
        due("bits: a and b", y.bring(0, 1, 1), 3);
        due("silent ones bow not", y.bring(0, 60, 0), 2);
        // nobody need play
        SluicePit z = pit("river 2; water 9 at 0; sluice 0; boat z at 0 draft 2; desk a arms 1 plays t;");
        due("now it is not", z.boat(0, 1, false), 0);
        due("nobody", z.bring(0, 1, 0), 0);
        due("no bits", z.bring(0, 1, 1), 0);
        due("in the last CELL from BAR 0", pit("river 2; boat z at 1 draft 9; desk a arms 1 plays t;").bring(0, 0, 0), 0);
    }

    private static void p21() {
        now = "promise 21";
        SluicePit x = pit("river 2; water 9 at 0; desk a arms 1 plays d;");
        due("two bytes", wet(x, 1, 2), true);
        due("tape", tapeIsEmpty(x), true);
        due("early", x.early(1, -1), 0);
        due("three bytes", wet(x, 1, 2, 3), false);
        due("tape", tapeIsEmpty(x), true);
        due("one byte", wet(x, 1), false);
        due("no byte", wet(x), false);
        due("what was told stays", x.early(1, -1), 0);
        due("255", wet(x, 255, 0), true);
        due("without a river", wet(new SluicePit()), false);
        SluicePit y = new SluicePit();
        due("without a river", wet(y, 1, 1), false);
        due("tape", tapeIsEmpty(y), true);
        // false tells nothing
        due("early", y.early(1, -1), -1);
    }

    private static void p22() {
        now = "promise 22";
        SluicePit x = pit("river 2; desk a arms 2 plays drd; desk b arms 3 plays rdd; pit 1; bed 9 at 1;");
        due("nothing is told", x.early(1, -1), -1);
        // played: 2: out 1: 1; 4: out 2: 2; 7: out 3: 4
        deep(x, 3, 0, 4);
        // BAR 1: a leaves 1 out: r; b leaves 1 out: d: 5: out 2: 3
        wet(x, 0, 3);
        due("how many", x.early(1, -1), 1);
        due("b left 1 out", x.early(1, 0), 101);
        due("k 1", x.early(1, 1), -1);
        due("k -2", x.early(1, -2), -1);
        due("bar 0", x.early(0, -1), -1);
        due("bar 61", x.early(61, -1), -1);
        due("bar 60", x.early(60, -1), 0);
        // BAR 3: a without 1: rd-: 0; then 2 + 3: 5: out 2: 3; then 3 + 3 = 6: 3
        //        a without 2: dd-: 1; 1 + 2 + 3: 6: 3; 3 + 3: 6: 3
        //        a without 3: dr-: 1; 4: 2; 2 + 3: 5: 3
        //        b without 1: dd-: 5: 3; 6: 3; 3 + 2: 5: 3
        //        b without 2: rd-: 1; 4: 2; 2 + 2: 4: 2; b without 3 likewise
        wet(x, 0, 3);
        due("how many", x.early(3, -1), 4);
        int[] due = {1, 2, 3, 101};
        for (int k = 0; k < 4; k++) due("k " + k, x.early(3, k), due[k]);
        due("k 4", x.early(3, 4), -1);
        wet(x, 0, 2);
        due("how many", x.early(3, -1), 2);
        due("k 0", x.early(3, 0), 102);
        due("k 1", x.early(3, 1), 103);
        // BARS of the PART alone: behind its end none can be left out
        SluicePit y = pit("river 2; desk a arms 2 plays dd;");
        wet(y, 0, 0);
        due("BAR 60", y.early(60, -1), 0);
        wet(y, 1, 1);
        due("BAR 60", y.early(60, -1), 2);
        due("the second", y.early(60, 1), 2);
        due("up to that BAR", y.early(1, -1), 1);
        // another CELL must be so, too
        wet(y, 1, 0);
        due("BAR 60", y.early(60, -1), 0);
        // acts leave what is told; what plays now counts
        wet(y, 1, 1);
        y.mark(0, 1, 2, false);
        due("after an act", y.early(60, -1), 0);
        y.undo();
        due("undone", y.early(60, -1), 2);
        due("without a river", new SluicePit().early(1, -1), -1);
    }

    private static void p23() {
        now = "promise 23";
        SluicePit x = pit("river 2; bank 1; pit 1; bed 9 at 1; desk a arms 6 plays dr; desk b arms 4 plays rdr; desk c arms 1 plays rrt;");
        // a 6: out 3: 3: spilt 2: 1; b 1 + 4: out 2: 3: spilt 2: 1; then out 0
        due("spilt", x.sums(60, 3), 4);
        due("from BAR 0", x.encore(0, 1), 2);
        due("from BAR 0", x.encore(0, 2), 4);
        // behind BAR 1: 1 + 6: out 3: 4: spilt 3
        due("behind 1", x.encore(1, 1), 3);
        // then 1 + 4: spilt 2
        due("behind 1", x.encore(1, 2), 5);
        due("behind 1", x.encore(1, 30), 5);
        due("behind 30", x.encore(30, 30), 5);
        due("behind 59", x.encore(59, 1), 3);
        due("all stays", x.sums(60, 3), 4);
        int[][] bad = {{60, 1}, {31, 30}, {0, 31}, {0, 0}, {-1, 1}, {0, -1}, {Integer.MAX_VALUE, 1}, {Integer.MIN_VALUE, 30}, {1, Integer.MAX_VALUE}};
        for (int[] b : bad) due("encore " + b[0] + " " + b[1], x.encore(b[0], b[1]), -1);
        due("without a river", new SluicePit().encore(0, 1), -1);
        // a PART's rests behind its end are BARS, too: only one d is heard again in n BARS
        SluicePit y = pit("river 2; bank 1; pit 1; bed 9 at 1; desk a arms 6 plays d;");
        due("behind 0", y.encore(0, 9), 2);
        // sluices are shut by the encore's trills, not by those behind BAR b
        SluicePit z = pit("river 2; bank 2; water 9 at 0; sluice 0; desk a arms 1 plays rtt;");
        // BAR 1, open: 4 flow, out 2: 5 and 2: spilt 3
        due("open", z.encore(0, 1), 3);
        due("nothing more", z.encore(1, 1), 0);
        SluicePit w = pit("river 2; bank 2; water 9 at 0; sluice 0; desk a arms 1 plays trr;");
        // BAR 1, shut: 9 and 0: spilt 7
        due("shut", w.encore(0, 1), 7);
    }

    private static void p24() {
        now = "promise 24";
        SluicePit x = pit("river 3; water 9 at 0; water 9 at 1; water 9 at 2; desk a arms 1 plays r;");
        due("BAR 0", x.trout(0, 50, 0), 50);
        // all CELLS have WATER in all BARS: none is lost
        due("BAR 60", x.trout(0, 50, 60), 50);
        // a dry CELL: lost at once, and nothing is drawn
        SluicePit y = pit("river 3; water 9 at 2; bed 9 at 2;");
        due("dry", y.trout(0, 50, 1), 0);
        due("wet", y.trout(2, 50, 60), 50);
        // a CELL that falls dry behind BAR 1: who moves down in BAR 1 lives on. The draws are reckoned here.
        SluicePit z = pit("river 2; bed 4 at 0; water 2 at 0; claque at 0 drinks 1; claque at 1 drinks 1; water 1 at 1;");
        deep(z, 0, 2, 1);
        // 6 above 1: 2 flow: 0 and 3: out 1: 2: drunk 1
        deep(z, 1, 0, 1);
        due("dry in BAR 1", z.trout(0, 9, 1), 0);
        due("still wet in BAR 1", z.trout(1, 9, 1), 9);
        due("dry in BAR 2", z.trout(1, 9, 2), 0);
        p24Draws();
        p24Up();
        SluicePit w = pit("river 2; water 9 at 0;");
        int[][] bad = {{2, 1, 1}, {-1, 1, 1}, {0, 0, 1}, {0, 51, 1}, {0, -1, 1}, {0, 1, 61}, {0, 1, -1}};
        for (int[] b : bad) due("trout " + b[0] + " " + b[1] + " " + b[2], w.trout(b[0], b[1], b[2]), -1);
        due("without a river", new SluicePit().trout(0, 1, 0), -1);
    }

    // CELLS 1 and 2 fall dry behind BAR 1: who draws 1 in BAR 1 lives on in CELL 0; nobody in CELL 2 does.
    private static void p24Up() {
        SluicePit x = pit("river 3; water 1 at 0; water 2 at 1; water 2 at 2; claque at 1 drinks 1; claque at 2 drinks 1;");
        deep(x, 1, 1, 1, 0);
        deep(x, 2, 1, 0, 0);
        long seed = 5;
        x.seed(5);
        int left = 0;
        for (int i = 0; i < 50; i++) {
            seed = (1103515245L * seed + 12345L) % 2147483648L;
            if (seed / 64 % 3 != 1) continue;
            // in CELL 0, where it draws once more: down is dry, up there is none
            seed = (1103515245L * seed + 12345L) % 2147483648L;
            left++;
        }
        due("trout", x.trout(1, 50, 2), left);
        due("some are left", left > 0 && left < 50, true);
    }

    // CELL 1 falls dry behind BAR 1, CELLS 0 and 2 stay wet: who draws 0 in BAR 1 is lost in BAR 2.
    private static void p24Draws() {
        SluicePit x = pit("river 3; water 1 at 0; bed 0 at 1; water 2 at 1; water 9 at 2; claque at 1 drinks 1;");
        deep(x, 1, 1, 1, 5);
        deep(x, 2, 1, 0, 3);
        deep(x, 3, 1, 0, 2);
        long seed = 1;
        for (int call = 0; call < 5; call++) {
            int left = 0;
            for (int i = 0; i < 50; i++) {
                int at = 1;
                for (int bar = 1; bar <= 3 && at != 3; bar++) {
                    if (at == 1 && bar > 1) {
                        at = 3;
                    } else {
                        seed = (1103515245L * seed + 12345L) % 2147483648L;
                        long draw = seed / 64 % 3;
                        if (bar == 1) at = draw == 1 ? 0 : draw == 2 ? 2 : 1;
                    }
                }
                if (at != 3) left++;
            }
            due("trout, call " + call, x.trout(1, 50, 3), left);
        }
    }

    private static void p25() {
        now = "promise 25";
        String text = "river 3; water 1 at 0; water 2 at 1; water 9 at 2; claque at 1 drinks 1;";
        SluicePit x = pit(text);
        SluicePit y = pit(text);
        int first = x.trout(1, 50, 2);
        due("seed", x.seed(1), true);
        due("the same again", x.trout(1, 50, 2), first);
        due("it is 1 at first", y.trout(1, 50, 2), first);
        due("below 0", x.seed(-1), false);
        due("below 0", x.seed(Integer.MIN_VALUE), false);
        due("the seed stays", x.trout(1, 50, 2), y.trout(1, 50, 2));
        due("0", x.seed(0), true);
        due("the greatest", x.seed(Integer.MAX_VALUE), true);
        // x = (1103515245 * (2 to the 31 - 1) + 12345) mod 2 to the 31 = 1043980748; 16312199 mod 3 = 2: one down
        due("one", x.trout(1, 1, 2), 1);
        due("seed", x.seed(0), true);
        // x = 12345; 192 mod 3 = 0: it stays, and is lost
        due("one", x.trout(1, 1, 2), 0);
        due("seed", x.seed(1), true);
        // x = 1103527590; 17242618 mod 3 = 1: one up
        due("one", x.trout(1, 1, 2), 1);
    }

    private static void p26() {
        now = "promise 26";
        SluicePit x = pit("river 3; water 8 at 0; bank 6; claque at 0 drinks 1; boat z at 0 draft 3; sluice 1; desk a arms 4 plays rdt; desk b arms 2 plays rd;");
        // BAR 1: 8 0 0: 4 4 0: 4 2 2: out 1: 4 2 1: drunk 1: 3 2 1. BAR 2: 9 2 1: 6 5 1: 6 3 3: out 1: 5 3 2. BAR 3, shut: 4 4 2: 3 4 1
        deep(x, 1, 3, 2, 1);
        deep(x, 2, 5, 3, 2);
        deep(x, 3, 3, 4, 1);
        due("boat", x.boat(0, 2, false), 1);
        due("boat", x.boat(0, 3, false), 1);
        due("first", ask(x, "first deep 1 = 4"), 3);
        due("tape", tapeIsEmpty(x), true);
        due("last", ask(x, "last deep 0 > 4"), 2);
        due("often", ask(x, "often deep 0 < 4 and bar < 4"), 2);
        due("first of none", ask(x, "first bar > 60"), -1);
        due("last of none", ask(x, "last bar > 60"), -1);
        due("often of none", ask(x, "often bar > 60"), 0);
        due("first of all", ask(x, "first all"), 0);
        due("last of all", ask(x, "last all"), 60);
        due("often of all", ask(x, "often all"), 61);
        due("total", ask(x, "total bar"), 1830);
        due("most", ask(x, "most bar * 2"), 120);
        due("least", ask(x, "least bar - 7"), -7);
        due("came", ask(x, "total came"), 6 * 59);
        due("came", ask(x, "first came > 0"), 2);
        due("out", ask(x, "most out"), x.sums(60, 1));
        due("drunk", ask(x, "most drunk"), x.sums(60, 2));
        due("spilt", ask(x, "most spilt"), x.sums(60, 3));
        due("out", ask(x, "first out = 2"), 2);
        due("drunk", ask(x, "first drunk = 2"), 2);
        due("trills", ask(x, "total trills * bar"), 3);
        due("boat", ask(x, "first boat 0 = 1"), 2);
        due("no boat", ask(x, "most boat 1"), 0);
        due("no boat", ask(x, "most boat (0 - 1)"), 0);
        due("no cell", ask(x, "most deep 3"), 0);
        due("no cell", ask(x, "most deep (0 - 1)"), 0);
        due("deep deep", ask(x, "total deep deep deep 1"), deepDeepDeep(x));
        due("deep of a PART alone", ask(x, "most deep 0 + 5"), 13);
        due("or, and", ask(x, "often bar = 1 or bar = 2 and bar = 3"), 1);
        due("brackets", ask(x, "often [bar = 1 or bar = 2] and bar < 2"), 1);
        due("not", ask(x, "often not bar = 1 and bar < 5"), 4);
        due("not not", ask(x, "often not not bar = 1"), 1);
        due("not [", ask(x, "often not [bar = 1 or bar = 2]"), 59);
        due("from the left on", ask(x, "most 10 - 3 - 2"), 5);
        due("from the left on", ask(x, "most 7 / 2 * 2"), 6);
        due("* ahead of +", ask(x, "most 1 + 2 * 3"), 7);
        due("brackets", ask(x, "most (1 + 2) * 3"), 9);
        due("/ below 0", ask(x, "most (0 - 7) / 2"), -4);
        due("/ below 0", ask(x, "most 7 / (0 - 2)"), -4);
        due("/ below 0", ask(x, "most (0 - 7) / (0 - 2)"), 3);
        due("/ by 0", ask(x, "most 7 / 0"), 0);
        due("/ by 0", ask(x, "least (0 - 7) / 0"), 0);
        due("above 10 to the 6", ask(x, "most 9999 * 9999"), 1000000);
        due("below", ask(x, "least (0 - 9999) * 9999"), -1000000);
        due("sums", ask(x, "most 9999 * 9999 + 1"), 1000000);
        due("differences", ask(x, "least (0 - 9999) * 9999 - 1"), -1000000);
        due("each one", ask(x, "most 9999 * 9999 + 9 - 10"), 999990);
        due("each product", ask(x, "most 9999 * 9999 / 9999"), 100);
        due("the total is whole", ask(x, "total 9999 * 9999"), 61000000);
        due("min", ask(x, "most min(bar, 7)"), 7);
        due("max", ask(x, "least max ( bar , 7 )"), 7);
        due("touching signs", ask(x, "first(bar)>3 and[bar<9]or not all"), 4);
        due("without blanks", ask(x, "most max(bar,7)*min(2,3)+(1)"), 121);
        due("9999", ask(x, "most 0009+9999"), 10008);
        due("signs", ask(x, "often bar < 3"), 3);
        due("signs", ask(x, "often bar > 3"), 57);
        due("signs", ask(x, "often bar = 3"), 1);
        // of all as it is now
        x.mark(0, 9, 9, true);
        due("after an act", ask(x, "last deep 0 > 4"), x.deep(0, 9) > 4 ? 9 : 2);
        due("after an act", ask(x, "most came"), 10);
        SluicePit none = new SluicePit();
        due("without a river", ask(none, "often all"), NOTHING);
        due("tape", tapeIsEmpty(none), true);
        due("fault(0)", none.fault(0), 0);
    }

    private static long deepDeepDeep(SluicePit x) {
        long all = 0;
        for (int b = 0; b <= 60; b++) all += Math.max(0, x.deep(Math.max(0, x.deep(x.deep(1, b), b)), b));
        return all;
    }

    private static void p26Faults() {
        now = "promise 26, FAULT 1";
        badAsk("", 1, 0);
        badAsk("  ", 1, 2);
        badAsk("often", 1, 5);
        badAsk("some all", 1, 0);
        badAsk("firstall", 1, 0);
        badAsk("7", 1, 0);
        badAsk("first", 1, 5);
        badAsk("first 5", 1, 7);
        badAsk("first 5 all", 1, 8);
        badAsk("first 5 <", 1, 9);
        badAsk("first 5 < < 5", 1, 10);
        badAsk("first 5 <= 5", 1, 9);
        badAsk("first all all", 1, 10);
        badAsk("first all;", 1, 9);
        badAsk("first all 1", 1, 10);
        badAsk("first all and", 1, 13);
        badAsk("first all or", 1, 12);
        badAsk("first [all", 1, 10);
        badAsk("first [all)", 1, 10);
        badAsk("first (all)", 1, 7);
        badAsk("first (1 < 2)", 1, 9);
        badAsk("first [1]", 1, 8);
        badAsk("first not", 1, 9);
        badAsk("first 1 < 2 < 3", 1, 12);
        badAsk("first bars < 2", 1, 6);
        badAsk("total", 1, 5);
        badAsk("total all", 1, 6);
        badAsk("total not 1", 1, 6);
        badAsk("total [1]", 1, 6);
        badAsk("total 1 < 2", 1, 8);
        badAsk("total 1 +", 1, 9);
        badAsk("total - 1", 1, 6);
        badAsk("total 1 2", 1, 8);
        badAsk("total 12345", 1, 10);
        badAsk("total 1 + 123456", 1, 14);
        badAsk("total 2 * 12345", 1, 14);
        badAsk("total 2 / 12345", 1, 14);
        badAsk("first 1 < 12345", 1, 14);
        badAsk("first all and 12345 < 1", 1, 18);
        badAsk("total (12345)", 1, 11);
        badAsk("total deep 12345", 1, 15);
        badAsk("total deep", 1, 10);
        badAsk("total deep0", 1, 10);
        badAsk("total bar7", 1, 9);
        badAsk("total 7bar", 1, 7);
        badAsk("total deep x", 1, 11);
        badAsk("total ()", 1, 7);
        badAsk("total (1", 1, 8);
        badAsk("total (1]", 1, 8);
        badAsk("total 1)", 1, 7);
        badAsk("total min", 1, 9);
        badAsk("total min 1", 1, 10);
        badAsk("total min(1)", 1, 11);
        badAsk("total max(1 2)", 1, 12);
        badAsk("total max(1,2,3)", 1, 13);
        badAsk("total max(1,)", 1, 12);
        badAsk("total Bar", 1, 6);
        badAsk("total bar\t", 1, 9);
        badAsk("total 1/*2", 1, 8);
        badAsk("total river", 1, 6);
    }

    private static void p26Open() {
        now = "promise 26, FAULT 4";
        badAsk("most (((((((1", 4, 11);
        badAsk("most deep deep deep deep deep deep deep 0", 4, 35);
        badAsk("most boat boat boat boat boat boat boat 0", 4, 35);
        badAsk("first [[[[[[[all", 4, 12);
        badAsk("first not not not not not not not all", 4, 30);
        badAsk("first not [ not [ not ( deep 0", 4, 24);
        badAsk("first [[[[[[[all]", 4, 12);
        badAsk("most min(min(min(min(min(min(min(1", 4, 32);
        badAsk("most ((((((max(1, 2", 4, 14);
        badAsk("most max(1, ((((((1", 4, 17);
        badAsk("most max((((((1,1), 2", 1, 15);
        badAsk("most ((((((not", 1, 11);
        badAsk("most ((((((]", 1, 11);
        badAsk("most ((((((min 1", 1, 15);
        badAsk("first not [ not [ not [ [", 4, 24);
        SluicePit x = pit("river 2; water 1 at 0;");
        due("six", ask(x, "most ((((((1))))))"), 1);
        due("six", ask(x, "most deep deep deep deep deep deep 1"), 1);
        due("six", ask(x, "often not [ not [ not [all]]]"), 0);
        // what is closed counts no more
        due("one after the other", ask(x, "most (1)+(1)+(1)+(1)+(1)+(1)+(1)+(1)"), 8);
        due("one after the other", ask(x, "often not all or not all or not all or not all or not all or not all or not all or all"), 61);
        due("one after the other", ask(x, "most deep 0+deep 0+deep 0+deep 0+deep 0+deep 0+deep 0+deep 0"), 8);
        due("one after the other", ask(x, "often [all] and [all] and [all] and [all] and [all] and [all] and [all]"), 61);
        due("one after the other", ask(x, "most min(1,2)+max(1,2)+min(1,2)+max(1,2)+min(1,2)+max(1,2)+min(1,2)"), 10);
        due("a not ends with its FACT", ask(x, "often not [all] and [[[[[[all]]]]]]"), 0);
        due("a deep ends with its PART", ask(x, "most deep (0) + ((((((1))))))"), 2);
        // a long one
        StringBuilder b = new StringBuilder("most 1");
        while (b.length() < 1590) b.append("+1");
        due("long", ask(x, b.toString()), (b.length() - 4) / 2);
        badAsk(b + "+", 1, b.length() + 1);
    }

    private static void p27() {
        now = "promise 27";
        SluicePit x = new SluicePit();
        due("image", x.image(), 1);
        due("octet(0)", x.octet(0), 149);
        x = pit("river 2; desk a arms 1 plays durt; desk b arms 1 plays u;");
        due("image", x.image(), 8);
        int[] due = {4, 0, 1, 2, 3, 1, 1, 0};
        int c = 149;
        for (int k = 0; k < 7; k++) c = (3 * c + due[k]) % 251;
        due[7] = c;
        for (int k = 0; k < 8; k++) due("octet " + k, x.octet(k), due[k]);
        due("octet(8)", x.octet(8), -1);
        // 149: 451 mod 251 = 200; 600 mod 251 = 98; 295 mod 251 = 44; 134; 405 mod 251 = 154; 463 mod 251 = 212; 637 mod 251 = 135
        due("the last one", x.octet(7), 135);
        StringBuilder b = new StringBuilder("river 2;");
        for (int k = 0; k < 8; k++) b.append("desk ").append((char) ('a' + k)).append(" arms 1 plays (tttttttttttt)times 5;");
        SluicePit y = pit(b.toString());
        due("the longest", y.image(), 489);
        due("octet(0)", y.octet(0), 60);
        due("octet(487)", y.octet(487), 3);
        int all = 149;
        for (int k = 0; k < 488; k++) all = (3 * all + (k % 61 == 0 ? 60 : 3)) % 251;
        due("octet(488)", y.octet(488), all);
        due("octet(489)", y.octet(489), -1);
    }

    private static void p28() {
        now = "promise 28";
        SluicePit x = pit("river 2; desk a arms 1 plays d;");
        due("ahead of any", x.octet(0), -1);
        due("image", x.image(), 3);
        due("octet(-1)", x.octet(-1), -1);
        due("octet(0)", x.octet(0), 1);
        due("octet(2)", x.octet(2), (3 * ((3 * 149 + 1) % 251)) % 251);
        due("octet(3)", x.octet(3), -1);
        due("octet(far)", x.octet(Integer.MAX_VALUE), -1);
        x.mark(0, 1, 3, false);
        due("the latest image stays", x.octet(0), 1);
        due("image", x.image(), 5);
        due("octet(0)", x.octet(0), 3);
        due("octet(1)", x.octet(1), 2);
        tape(x, "river 2;");
        x.opera();
        due("the latest image stays", x.octet(0), 3);
        due("image", x.image(), 1);
        due("octet(1)", x.octet(1), -1);
        due("octet(0)", x.octet(0), 149);
    }

    private static void p29() {
        now = "promise 29";
        SluicePit x = pit("river 2; desk a arms 1 plays durt; desk b arms 2 plays u;");
        x.mark(0, 1, 1, false);
        wet(x, 0, 1);
        due("on", on(x, 2, 0, 0, 3, 3, 2, 1, check(2, 0, 0, 3, 3, 2, 1)), true);
        due("tape", tapeIsEmpty(x), true);
        acts(x, 0, "dd");
        acts(x, 1, "tru");
        due("nothing to undo", x.undo(), false);
        due("came", x.sums(60, 0), 2);
        due("trills", x.sums(60, 5), 1);
        due("what is wet stays told", x.early(1, -1) >= 0, true);
        x.mark(0, 1, 1, false);
        int[][] bad = {{}, {check()}, {0, check(0)}, {0, 0, check(0, 0) + 1}, {0, 0, check(0, 0), 0}, {1, 4, 0, check(1, 4, 0)},
            {1, 0, 1, check(1, 0, 1)}, {0, 0, 0, check(0, 0, 0)}, {1, 255, 0, check(1, 255, 0)}, {2, 0, 0}, {2, 0, 0, 0}};
        for (int[] b : bad) {
            due("on", on(x, b), false);
            due("tape", tapeIsEmpty(x), true);
            acts(x, 0, "rd");
            acts(x, 1, "tru");
            due("has(9)", x.has(9), 1);
        }
        // PARTS of 0 BARS
        due("on", on(x, 0, 0, check(0, 0)), true);
        due("bars", x.desk(0, -1), 0);
        due("bar 1", x.desk(0, 1), 2);
        due("longest", x.has(8), 0);
        due("has(9)", x.has(9), 0);
        due("came", x.sums(60, 0), 0);
        // 60 and 61 BARS
        for (int n = 60; n <= 61; n++) {
            int[] b = new int[n + 3];
            b[0] = n;
            for (int k = 1; k <= n; k++) b[k] = 1;
            b[n + 1] = 0;
            int[] ahead = new int[n + 2];
            System.arraycopy(b, 0, ahead, 0, n + 2);
            b[n + 2] = check(ahead);
            due("on of " + n, on(x, b), n == 60);
        }
        due("bars", x.desk(0, -1), 60);
        // its own image again
        x.mark(1, 7, 7, true);
        int size = x.image();
        int[] own = new int[size];
        for (int k = 0; k < size; k++) own[k] = x.octet(k);
        x.mark(1, 1, 60, false);
        due("on", on(x, own), true);
        acts(x, 1, "rrrrrrd");
        due("without a river", on(new SluicePit(), 149), false);
        SluicePit y = new SluicePit();
        due("without a river", on(y, 149), false);
        due("tape", tapeIsEmpty(y), true);
        due("no DESKS", on(pit("river 2;"), 149), true);
    }
}
