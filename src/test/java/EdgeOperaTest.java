/** The sentences of section I and of promises 1 to 8, 10 and 17 that name a case at an edge: at it and on both its sides. */
public final class EdgeOperaTest extends Told {
    private static final String DESK = "river 3;desk a arms 1 plays ";
    private static final String TWELVE = "dddddddddddd";

    public static void main(String[] args) {
        nobody();
        feedHighestFirst();
        feedFull();
        endOfTape();
        statements();
        statement71();
        withoutStatement();
        river();
        cellsFrom0();
        grounds();
        lastOneCounts();
        without();
        ranges();
        cells();
        sluices();
        kinds();
        desk9();
        names();
        ownWords();
        nameLetters();
        namesThere();
        digits();
        blanks();
        sideBySide();
        words();
        endsTooSoon();
        firstAlongTheText();
        allStays();
        forgotten();
        bothRooms();
        partLetters();
        partOrder();
        partTimes();
        partOpen();
        part60();
        partGroups();
        partWithout();
        taught();
        taughtWrong();
        taughtNobody();
        faultLatest();
        faultOthers();
        hasOthers();
        letters();
        deskBars();
        cellWhats();
        close();
    }

    // ---- promises 1 to 3

    private static void nobody() {
        now = "promise 1: No river, nobody";
        SluicePit x = new SluicePit();
        has(x, 0, 0, 0, 0, 0, 0, 0, 99, 0, 0);
        for (int kind = 0; kind < 3; kind++) due("letter", x.letter(kind, 0, 0), -1);
        for (int bar = -1; bar <= 1; bar++) due("desk", x.desk(0, bar), -1);
        for (int what = 0; what < 6; what++) due("sums", x.sums(0, what), -1);
        for (int what = 0; what < 3; what++) {
            due("cell", x.cell(0, what), -1);
            due("first", x.first(0, what), -1);
        }
        due("deep", x.deep(0, 0), -1);
        due("led", x.led(0, 0), -1);
        due("boat", x.boat(0, 0, false), -1);
        due("aground", x.boat(0, 0, true), -1);
        due("turning", x.turning(0, 0), -1);
        due("mark", x.mark(0, 1, 1, true), -1);
        due("teach", teach(x, 0, "d"), -1);
        due("undo", x.undo(), false);
        due("stop", x.stop(0, 0, 0), -1);
        due("bring", x.bring(0, 0, 0), -1);
        due("wet", wet(x), false);
        due("wet", wet(x, 0, 0), false);
        due("early", x.early(1, -1), -1);
        due("encore", x.encore(0, 1), -1);
        due("trout", x.trout(0, 1, 0), -1);
        due("ask", ask(x, "often all"), NOTHING);
        due("octet", x.octet(0), -1);
        due("on", on(x, 149), false);
        due("fault(0)", x.fault(0), 0);
        due("fault(1)", x.fault(1), -1);
        due("seed", x.seed(0), true);
        due("image", x.image(), 1);
        due("octet", x.octet(0), 149);
        due("octet", x.octet(1), -1);
    }

    private static void feedHighestFirst() {
        now = "promise 2: of each number the highest first";
        SluicePit x = new SluicePit();
        due("feed", x.feed(0x72697665, 0x72203132, 0x3b706974, 0x20313120, 0x3b0a0a0a), 20);
        due("river 12;pit 11 ;", x.opera(), 2);
        due("pit", x.has(6), 11);
        // the first byte of a number below 0
        SluicePit y = pit("river 2;");
        due("feed", y.feed(0x95ffffff, -1, -1, -1, -1), 20);
        due("end", y.end(1), true);
        due("149", y.on(), true);
        due("feed", y.feed(LEAST, GREATEST, 0, 0, 0), 20);
        due("end", y.end(2), true);
        due("128 and 0", y.wet(), true);
    }

    private static void feedFull() {
        now = "promise 2: NONE, doing nothing, if there would be more than 1600";
        for (int size = 1579; size <= 1600; size++) {
            SluicePit x = new SluicePit();
            for (int k = 1; k <= 80; k++) due("feed", x.feed(0x20202020, 0x20202020, 0x20202020, 0x20202020, 0x20202020), 20 * k);
            due("end", x.end(size), true);
            due("feed to " + size, x.feed(0, 0, 0, 0, 0), size <= 1580 ? size + 20 : -1);
            int there = size <= 1580 ? size + 20 : size;
            due("end of more", x.end(there + 1), false);
            due("end of all", x.end(there), true);
            due("opera", x.opera(), -1);
            faults(x, "" + size, 1, size);
        }
    }

    private static void endOfTape() {
        now = "promise 3: false, doing nothing, if it has not so many, or n is below 0";
        SluicePit x = new SluicePit();
        due("end(0) of none", x.end(0), true);
        due("end(1) of none", x.end(1), false);
        due("end(-1) of none", x.end(-1), false);
        due("feed", x.feed(1, 2, 3, 4, 5), 20);
        for (int n : new int[] {21, GREATEST, -1, LEAST}) due("end(" + n + ")", x.end(n), false);
        due("feed behind all of it", x.feed(1, 2, 3, 4, 5), 40);
        due("end(40)", x.end(40), true);
        due("end(39)", x.end(39), true);
        due("end(40)", x.end(40), false);
        due("end(39)", x.end(39), true);
        due("end(0)", x.end(0), true);
        due("end(1)", x.end(1), false);
        due("feed", x.feed(1, 2, 3, 4, 5), 20);
    }

    // ---- promise 4: statements

    private static String banks(int n) {
        StringBuilder b = new StringBuilder("river 2;");
        for (int k = 1; k < n; k++) b.append("bank ").append(k).append(';');
        return b.toString();
    }

    private static void statements() {
        now = "promise 4, I: { STATEMENT ; } (70 at most)";
        good(banks(1), 1);
        good(banks(69), 69);
        good(banks(70), 70);
        good(banks(70) + " \n ", 70);
        due("the 70th counts", pit(banks(70)).has(7), 69);
        String t = banks(70);
        bad(t.substring(0, t.length() - 1), 1, t.length() - 1);
        badAt(banks(69) + "bank ", "100;", 2);
        // a tape that is full
        String full = banks(70);
        while (full.length() < 1600) full = full + " ";
        good(full, 70);
    }

    private static void statement71() {
        now = "promise 4, I: 5 a 71st STATEMENT (whatever stands there), at its first byte";
        String[] all = {"bank 9;", "bank", "river 2;", ";", "!", "x", "7", "12345", "(", "bank 0;", "" + (char) 200, "" + (char) 9, "" + (char) 0};
        for (String one : all) {
            badAt(banks(70), one, 5);
            badAt(banks(70) + " \n", one, 5);
        }
        // the 70th itself has the FAULT that it has
        badAt(banks(69), "!", 1);
        badAt(banks(69), ";", 1);
        badAt(banks(69), "river 2;", 1);
    }

    private static void withoutStatement() {
        now = "promise 4: one without a STATEMENT has FAULT 1 at its length";
        bad("", 1, 0);
        bad(" ", 1, 1);
        bad("\n \n", 1, 3);
        String full = "";
        while (full.length() < 1600) full = full + " ";
        bad(full, 1, 1600);
        bad(full.substring(1), 1, 1599);
    }

    private static void river() {
        now = "promise 4, I: river N (2 .. 12 CELLS; the first STATEMENT, and it alone)";
        range("river ", ";", 2, 12);
        bad("bank 9;river 2;", 1, 0);
        bad(";", 1, 0);
        bad(";river 2;", 1, 0);
        bad("bed 0 at 0;", 1, 0);
        badAt("river 2;", "river 2;", 1);
        badAt("river 2;bank 9;", "river 2;", 1);
    }

    // The least and the greatest are good; what is just outside has FAULT 2 at the number, a 5th digit FAULT 1 at itself.
    private static void range(String ahead, String behind, int least, int most) {
        String[] inside = {"" + least, "" + most, "000" + least};
        for (String one : inside) {
            String text = ahead + one + behind;
            good(text, text.length() - text.replace(";", "").length());
        }
        if (least > 0) badAt(ahead, least - 1 + behind, 2);
        badAt(ahead, most + 1 + behind, 2);
        badAt(ahead, "9999" + behind, 2);
        badAt(ahead, most + 1 + "", 2);
        badAt(ahead + "0000", least + behind, 1);
        badAt(ahead, behind.trim(), 1);
        badAt(ahead, "-1" + behind, 1);
        badAt(ahead, "x" + behind, 1);
    }

    private static void cellsFrom0() {
        now = "promise 4, I: CELLS, numbered from 0";
        for (int n = 2; n <= 12; n++) {
            SluicePit x = pit("river " + n + ";");
            due("has(0)", x.has(0), n);
            due("deep(-1)", x.deep(-1, 0), -1);
            due("deep(0)", x.deep(0, 0), 0);
            due("deep of the last", x.deep(n - 1, 0), 0);
            due("deep behind it", x.deep(n, 0), -1);
        }
    }

    private static void grounds() {
        now = "promise 4, I: bed N at N (0 .. 9, a CELL), water N at N (0 .. 99; likewise)";
        range("river 3;bed ", " at 1;", 0, 9);
        range("river 3;bed 1 at ", ";", 0, 2);
        range("river 3;water ", " at 1;", 0, 99);
        range("river 3;water 1 at ", ";", 0, 2);
        SluicePit x = pit("river 3;bed 9 at 0;bed 0 at 1;bed 8 at 2;water 99 at 0;water 0 at 1;water 98 at 2;");
        int[][] due = {{9, 0, 99}, {0, 0, 0}, {8, 0, 98}};
        for (int c = 0; c < 3; c++) for (int what = 0; what < 3; what++) due("cell " + c, x.cell(c, what), due[c][what]);
    }

    private static void lastOneCounts() {
        now = "promise 4, I: the last one of a CELL counts; the last one counts (pit, bank)";
        SluicePit x = pit("river 3;bed 5 at 1;bed 7 at 1;bed 2 at 2;water 5 at 1;water 70 at 1;water 6 at 0;pit 2;pit 1;bank 8;bank 3;");
        due("bed", x.cell(1, 0), 7);
        due("bed of another CELL", x.cell(2, 0), 2);
        due("water", x.cell(1, 2), 70);
        due("water of another CELL", x.cell(0, 2), 6);
        due("pit", x.has(6), 1);
        due("bank", x.has(7), 3);
        SluicePit y = pit("river 3;bed 7 at 1;bed 0 at 1;water 70 at 1;water 0 at 1;pit 2;pit 0;bank 3;bank 99;");
        due("bed", y.cell(1, 0), 0);
        due("water", y.cell(1, 2), 0);
        due("pit", y.has(6), 0);
        due("bank", y.has(7), 99);
    }

    private static void without() {
        now = "promise 4, I: 0 without (bed, water, pit), 99 without (bank)";
        SluicePit x = pit("river 2;bed 1 at 1;water 1 at 1;");
        due("bed", x.cell(0, 0), 0);
        due("water", x.cell(0, 2), 0);
        due("pit", x.has(6), 0);
        due("bank", x.has(7), 99);
    }

    private static void ranges() {
        now = "promise 4, I: arms 1 .. 9, needs 1 .. 99, draft 1 .. 99, drinks 1 .. 9, bank 1 .. 99";
        range("river 3;desk a arms ", " plays d;", 1, 9);
        range("river 3;mill a at 1 needs ", ";", 1, 99);
        range("river 3;boat a at 1 draft ", ";", 1, 99);
        range("river 3;claque at 1 drinks ", ";", 1, 9);
        range("river 3;bank ", ";", 1, 99);
    }

    private static void cells() {
        now = "promise 4, I: 2 a CELL that there is not";
        for (int n = 2; n <= 12; n += 5) {
            String river = "river " + n + ";";
            range(river + "pit ", ";", 0, n - 1);
            range(river + "mill a at ", " needs 1;", 0, n - 1);
            range(river + "boat a at ", " draft 1;", 0, n - 1);
            range(river + "claque at ", " drinks 1;", 0, n - 1);
        }
    }

    private static void sluices() {
        now = "promise 4, I: sluice N (a CELL but the last one; not told already)";
        range("river 2;sluice ", ";", 0, 0);
        range("river 12;sluice ", ";", 0, 10);
        badAt("river 3;sluice 0;sluice ", "0;", 2);
        badAt("river 3;sluice 0;sluice 1;sluice ", "0001;", 2);
        StringBuilder b = new StringBuilder("river 12;");
        for (int c = 10; c >= 0; c--) b.append("sluice ").append(c).append(';');
        good(b.toString(), 12);
        SluicePit x = pit(b.toString());
        due("has(2)", x.has(2), 11);
        for (int c = 0; c < 12; c++) due("sluice at " + c, x.cell(c, 1), c < 11 ? 1 : 0);
        badAt(b + "sluice ", "5;", 2);
        badAt(b + "sluice ", "11;", 2);
    }

    // ---- promise 4: kinds

    private static void kinds() {
        now = "promise 4, I: 4 MILLS, 4 BOATS, 4 CLAQUES; 5 one too many of a kind, at its first byte";
        String[] kinds = {"mill # at 0 needs 1;", "boat # at 1 draft 2;", "claque at 2 drinks 3;"};
        for (int kind = 0; kind < 3; kind++) {
            StringBuilder b = new StringBuilder("river 3;");
            for (int n = 1; n <= 4; n++) {
                b.append(kinds[kind].replace("#", "n" + "abcd".charAt(n - 1)));
                good(b.toString(), n + 1);
                due("has(" + (3 + kind) + ")", pit(b.toString()).has(3 + kind), n);
            }
            badAt(b.toString(), kinds[kind].replace("#", "x"), 5);
            badAt(b + " ", kinds[kind].replace("#", "x"), 5);
            // whatever stands behind its first word
            badAt(b.toString(), kinds[kind].replace("#", "na"), 5);
            String word = kinds[kind].substring(0, kinds[kind].indexOf(' '));
            badAt(b.toString(), word, 5);
            badAt(b.toString(), word + " !", 5);
            badAt(b.toString(), word + "s x", 1);
            for (int other = 0; other < 3; other++) {
                if (other != kind) good(b + kinds[other].replace("#", "x"), 6);
            }
        }
    }

    private static void desk9() {
        now = "promise 4, I: 8 DESKS; 5 one too many of a kind, at its first byte";
        StringBuilder b = new StringBuilder("river 3;");
        for (int n = 1; n <= 8; n++) {
            b.append("desk n").append("abcdefgh".charAt(n - 1)).append(" arms ").append(n).append(" plays ").append("durtdurt", 0, n).append(';');
            good(b.toString(), n + 1);
            due("has(1)", pit(b.toString()).has(1), n);
        }
        SluicePit x = pit(b.toString());
        for (int d = 0; d < 8; d++) {
            due("arms", x.desk(d, 0), d + 1);
            due("name", x.letter(0, d, 1), d + 1);
            acts(x, d, "durtdurt".substring(0, d + 1));
        }
        badAt(b.toString(), "desk x arms 1 plays d;", 5);
        badAt(b + "\n", "desk na arms 1 plays d;", 5);
        badAt(b.toString(), "desk", 5);
        badAt(b.toString(), "desk 7", 5);
        badAt(b.toString(), "desks", 1);
        good(b + "boat x at 0 draft 1;", 10);
    }

    // ---- promise 4: names and numbers

    private static void names() {
        now = "promise 4, I: NAMES: 1 to 6 letters; a 7th letter at itself";
        String[][] kinds = {{"river 2;desk ", " arms 1 plays d;"}, {"river 2;mill ", " at 0 needs 1;"}, {"river 2;boat ", " at 0 draft 1;"}};
        for (String[] kind : kinds) {
            good(kind[0] + "a" + kind[1], 2);
            good(kind[0] + "abcdef" + kind[1], 2);
            badAt(kind[0] + "abcdef", "g" + kind[1], 1);
            badAt(kind[0] + "abcdef", "ghijklmnop" + kind[1], 1);
            badAt(kind[0] + "abcdef", "g", 1);
            badAt(kind[0], kind[1].substring(1), 1);
            badAt(kind[0], ";", 1);
            badAt(kind[0], "1" + kind[1], 1);
            badAt(kind[0] + "a", "1" + kind[1], 1);
            // a longer one that begins like one that is there is no NAME
            badAt("river 2;boat abcdef at 0 draft 1;" + kind[0].substring(8) + "abcdef", "g" + kind[1], 1);
        }
    }

    private static void ownWords() {
        now = "promise 4, I: NAMES: no OWN WORD, which is a FAULT whole, at its first byte";
        String own = "river bed at water desk arms plays pit sluice mill needs boat draft claque drinks bank times";
        for (String word : own.split(" ")) {
            badAt("river 2;desk ", word + " arms 1 plays d;", 1);
            badAt("river 2;mill ", word + " at 0 needs 1;", 1);
            badAt("river 2;boat ", word + " at 0 draft 1;", 1);
            String shorter = word.substring(0, word.length() - 1);
            good("river 2;desk " + shorter + " arms 1 plays d;", 2);
            if (word.length() < 6) good("river 2;desk " + word + "x arms 1 plays d;", 2);
            else badAt("river 2;desk " + word, "x arms 1 plays d;", 1);
        }
        // words of PARTS and of questions are none
        for (String word : "d durt or and not all bar deep first min".split(" ")) good("river 2;desk " + word + " arms 1 plays d;", 2);
    }

    private static void nameLetters() {
        now = "promise 4, I: NAMES: letters";
        good("river 2;desk az arms 1 plays d;", 2);
        for (char sign : new char[] {'`', '{', '@', '[', 'A', 'Z', '_', '/', ':', (char) 225, (char) 0}) {
            badAt("river 2;desk ", sign + " arms 1 plays d;", 1);
            badAt("river 2;desk a", sign + " arms 1 plays d;", 1);
        }
    }

    private static void namesThere() {
        now = "promise 4, I: 3 a NAME that is there already, at it (of DESKS, MILLS, BOATS)";
        String[][] kinds = {{"desk ", " arms 1 plays d;"}, {"mill ", " at 0 needs 1;"}, {"boat ", " at 0 draft 1;"}};
        for (String[] one : kinds) {
            for (String[] other : kinds) {
                String ahead = "river 2;" + one[0] + "abcde" + one[1];
                badAt(ahead + other[0], "abcde" + other[1], 3);
                badAt(ahead + other[0], "abcde", 3);
                badAt(ahead + other[0], "abcde 7", 3);
                good(ahead + other[0] + "abcd" + other[1], 3);
                good(ahead + other[0] + "abcdef" + other[1], 3);
                good(ahead + other[0] + "abcdf" + other[1], 3);
                good(ahead + other[0] + "bbcde" + other[1], 3);
            }
        }
        // the last of many; one of an opera ahead is not there
        StringBuilder b = new StringBuilder("river 2;");
        for (int n = 0; n < 8; n++) b.append("desk ").append("abcdefgh".charAt(n)).append(" arms 1 plays d;");
        for (int n = 0; n < 4; n++) b.append("mill ").append("ijkl".charAt(n)).append(" at 0 needs 1;");
        for (int n = 0; n < 3; n++) b.append("boat ").append("mno".charAt(n)).append(" at 0 draft 1;");
        for (int n = 0; n < 15; n++) badAt(b + "boat ", "abcdefghijklmno".charAt(n) + " at 0 draft 1;", 3);
        good(b + "boat p at 0 draft 1;", 17);
        SluicePit x = pit(b.toString());
        for (int n = 0; n < 3; n++) due("the same opera again", opera(x, b.toString()), 16);
    }

    private static void digits() {
        now = "promise 4, I: NUMBERS: 1 to 4 digits; where a number is asked, a 5th digit at itself";
        good("river 0002;", 1);
        good("river 0012;bank 0099;", 2);
        badAt("river 0002", "0;", 1);
        badAt("river 9999", "9;", 1);
        badAt("river 1234", "567890123456789;", 1);
        badAt("river 2;bank 0000", "9;", 1);
        badAt("river 2;desk a arms 1 plays (d)times 0000", "2;", 1);
        // where none is asked it is a FAULT whole, at its first byte
        badAt("river 2;", "12345", 1);
        badAt("river 2;desk ", "12345 arms", 1);
        badAt("river 2 ", "12345;", 1);
        badAt(DESK, "12345;", 1);
        for (char sign : new char[] {'/', ':', '-', '+', '.', (char) 178}) badAt("river ", sign + "2;", 1);
    }

    private static void blanks() {
        now = "promise 4, I: Blanks (10, 32) are where one likes";
        String[] tokens = {"river", "2", ";", "desk", "a", "arms", "1", "plays", "d", "(", "u", "(", "r", ")", "times", "2", ")", "times", "3", ";",
            "claque", "at", "1", "drinks", "2", ";"};
        for (String blank : new String[] {" ", "\n", "  ", "\n\n", " \n "}) {
            String text = blank + String.join(blank, tokens) + blank;
            good(text, 3);
            acts(pit(text), 0, "durrurrurr");
        }
        good("river 2;desk a arms 1 plays d(u(r)times 2)times 3;claque at 1 drinks 2;", 3);
        for (int sign : new int[] {0, 8, 9, 11, 12, 13, 31, 127, 133, 160, 255}) {
            badAt("river 2;", (char) sign + "bank 9;", 1);
            badAt("river", (char) sign + "2;", 1);
            badAt("river 2", (char) sign + ";", 1);
            bad((char) sign + "river 2;", 1, 0);
        }
    }

    private static void sideBySide() {
        now = "promise 4, I: words and numbers side by side need a blank";
        badAt("river", "2;", 1);
        badAt("river 2;bed", "1 at 0;", 1);
        badAt("river 2;bed 1", "at 0;", 1);
        badAt("river 2;bed 1 at", "0;", 1);
        badAt("river 2;", "deska arms 1 plays d;", 1);
        badAt("river 2;desk aarms ", "1 plays d;", 1);
        badAt("river 2;desk a arms", "1 plays d;", 1);
        badAt("river 2;desk a arms 1", "plays d;", 1);
        badAt("river 2;desk a arms 1 ", "playsd;", 1);
        badAt("river 2;desk a arms 1 plays (d)times", "2;", 1);
        badAt("river 2;desk a arms 1 plays (d)times 2", "u;", 1);
        badAt("river 2;desk a arms 1 plays ((d)times 2", "times 2;", 1);
        badAt("river 2;desk a arms 1 plays d", "2;", 1);
        badAt("river 2;mill a at 0 needs", "1;", 1);
        badAt("river 2;mill a at 0", "needs 1;", 1);
        badAt("river 2;pit", "0;", 1);
        badAt("river 2;pit 0", "x;", 1);
        // with a sign between they need none
        good("river 2;desk a arms 1 plays(d)times 2(u)times 2 d(r)times 2;", 2);
    }

    private static void words() {
        now = "promise 4, I: 1 words whole, at their first byte";
        bad("rive 2;", 1, 0);
        bad("riverr 2;", 1, 0);
        bad("r", 1, 0);
        String[][] pieces = {{"river 2;", "be"}, {"river 2;", "bedd"}, {"river 2;bed 1 ", "a"}, {"river 2;bed 1 ", "att"}, {"river 2;water 1 ", "on"},
            {"river 2;desk a ", "arm"}, {"river 2;desk a ", "armss"}, {"river 2;desk a arms 1 ", "play"}, {"river 2;desk a arms 1 ", "playss"},
            {"river 2;mill a ", "in"}, {"river 2;mill a at 0 ", "need"}, {"river 2;boat a at 0 ", "drafts"}, {"river 2;boat a at 0 ", "needs"},
            {"river 2;claque ", "a"}, {"river 2;claque at 0 ", "drink"}, {"river 2;claque at 0 ", "draft"}, {DESK + "(d) ", "time"}, {DESK + "(d) ", "timess"},
            {"river 2;", "times"}, {"river 2;", "at"}, {"river 2;", "needs"}, {"river 2;", "riverbed"}};
        for (String[] piece : pieces) {
            badAt(piece[0], piece[1], 1);
            badAt(piece[0], piece[1] + " 1;", 1);
        }
    }

    private static void endsTooSoon() {
        now = "promise 4, I: 1 at the text's length, if it ends too soon";
        String[] all = {"river 2 ;", "river 2 ; bed 1 at 0 ;", "river 2 ; water 1 at 0 ;", "river 2 ; desk a arms 1 plays d ( u ( r ) times 2 ) times 3 ;",
            "river 2 ; pit 0 ;", "river 2 ; sluice 0 ;", "river 2 ; mill a at 0 needs 1 ;", "river 2 ; boat a at 0 draft 1 ;",
            "river 2 ; claque at 0 drinks 1 ;", "river 2 ; bank 1 ;"};
        for (String text : all) {
            String[] tokens = text.split(" ");
            StringBuilder b = new StringBuilder();
            for (int k = 0; k < tokens.length; k++) {
                b.append(k > 0 ? " " : "").append(tokens[k]);
                if (tokens[k].equals(";")) continue;
                bad(b.toString(), 1, b.length());
                bad(b + " \n", 1, b.length() + 2);
            }
            good(b.toString(), text.length() - text.replace(";", "").length());
        }
    }

    private static void firstAlongTheText() {
        now = "promise 4, I: FAULTS, the first along the text";
        badAt("river ", "1 x", 2);
        badAt("river ", "13x", 2);
        badAt("river 2;bed 9 ", "on 7;", 1);
        badAt("river 2;bed ", "10 on 7;", 2);
        badAt("river 2;bed 9 at ", "2 ; !", 2);
        badAt("river 2;sluice ", "1 1", 2);
        badAt("river 2;desk a arms ", "0 play x", 2);
        badAt("river 2;desk a ", "7 arms 0", 1);
        badAt("river 2;boat a at 0 draft 1;boat ", "a at 9 draft 0;", 3);
        badAt("river 2;boat a at 0 draft 1;boat ", "a1", 3);
        badAt(DESK + "(d)times ", "1 " + TWELVE + "d", 2);
        badAt(DESK + "(", TWELVE + "d)times 1", 1);
        badAt(DESK + "(((((", "((x", 4);
        badAt(DESK + "(((((", "x(", 1);
        badAt(DESK, "(" + TWELVE + ")times 6 x", 5);
        badAt(DESK, "(" + TWELVE + ")times 6d", 5);
        badAt(DESK, "(" + TWELVE + ")times 6", 5);
        badAt(DESK + "(" + TWELVE + ")times 5 ", TWELVE + "d", 1);
        badAt(DESK + "(" + TWELVE + ")times 5 ", "d " + TWELVE + "d", 5);
    }

    // ---- promise 4: what stays and what goes

    private static SluicePit busy() {
        SluicePit x = pit("river 2;water 9 at 0;desk a arms 1 plays d;boat b at 0 draft 1;");
        due("wet", wet(x, 5, 2), true);
        due("mark", x.mark(0, 2, 3, true), 2);
        due("image", x.image(), 5);
        due("seed", x.seed(77), true);
        return x;
    }

    private static void allStays() {
        now = "promise 4: NONE with a FAULT (all stays)";
        for (String text : new String[] {"", "x", "river 3;bed 1 at 7;", "river 12;bank 3;pit 11;desk q arms 9 plays tttt;desk q", banks(70) + ";"}) {
            SluicePit x = busy();
            due("opera", opera(x, text), -1);
            due("the tape goes", tapeIsEmpty(x), true);
            has(x, 2, 1, 0, 0, 1, 0, 0, 99, 3, 1);
            // 10: 5 flow, out 2; 6 above 3: 1 flow, out 2
            deep(x, 1, 5, 3);
            deep(x, 2, 5, 2);
            due("early", x.early(2, -1) >= 0, true);
            due("octet", x.octet(0), 3);
            due("octet", x.octet(1), 0);
            due("undo", x.undo(), true);
            acts(x, 0, "d");
            seedIs(x, 77);
        }
    }

    // How many of 50 trout are left tells by which seed they drew.
    private static void seedIs(SluicePit x, int seed) {
        SluicePit like = pit("river 3;water 1 at 0;water 2 at 1;water 9 at 2;claque at 1 drinks 1;");
        like.seed(seed);
        int due = like.trout(1, 50, 2);
        due("opera", opera(x, "river 3;water 1 at 0;water 2 at 1;water 9 at 2;claque at 1 drinks 1;"), 5);
        due("trout by the seed " + seed, x.trout(1, 50, 2), due);
        due("not by 1", pit("river 3;water 1 at 0;water 2 at 1;water 9 at 2;claque at 1 drinks 1;").trout(1, 50, 2) != due, true);
    }

    private static void forgotten() {
        now = "promise 4: Without one nothing is told by wet(), nothing can be undone; the seed stays";
        SluicePit x = busy();
        due("opera", opera(x, "river 2;desk a arms 1 plays ddd;"), 2);
        due("early", x.early(1, -1), -1);
        due("early", x.early(1, 0), -1);
        due("has(9)", x.has(9), 0);
        due("undo", x.undo(), false);
        acts(x, 0, "ddd");
        due("the latest image", x.octet(0), 3);
        seedIs(x, 77);
    }

    // Two great ones ahead, so that nothing of them is left wherever the small one is put.
    private static void bothRooms() {
        now = "promise 4: The tape is THE OPERA, and nothing of one ahead";
        StringBuilder b = new StringBuilder("river 12;pit 11;bank 2;");
        for (int c = 0; c < 12; c++) b.append("bed 9 at ").append(c).append(";water 99 at ").append(c).append(';');
        for (int c = 0; c < 11; c++) b.append("sluice ").append(c).append(';');
        for (int n = 0; n < 4; n++) {
            b.append("desk desks").append("abcd".charAt(n)).append(" arms 9 plays (tttttttttttt)times 5;");
            b.append("mill mills").append("abcd".charAt(n)).append(" at 11 needs 1;claque at 1 drinks 9;boat boats").append("abcd".charAt(n)).append(" at 9 draft 99;");
        }
        SluicePit x = new SluicePit();
        due("a great one", opera(x, b.toString()), 54);
        due("a great one", opera(x, b.toString()), 54);
        for (int round = 0; round < 2; round++) {
            due("a small one", opera(x, "river 3;desk a arms 8 plays dd;mill m at 0 needs 4;boat z at 0 draft 2;"), 4);
            has(x, 3, 1, 0, 1, 1, 0, 0, 99, 2, 0);
            for (int c = 0; c < 3; c++) for (int what = 0; what < 3; what++) due("cell", x.cell(c, what), 0);
            due("letter 2", x.letter(0, 0, 1), 0);
            // 8: 4, 2, out 1: 4 2 1; 12: 5 flow: 7, 7: 3 flow: 4, 4: out 2
            deep(x, 1, 4, 2, 1);
            deep(x, 2, 7, 4, 2);
            due("spilt", x.sums(60, 3), 0);
            due("drunk", x.sums(60, 2), 0);
            due("boat", x.boat(0, 2, false), 2);
            due("bar 3", x.desk(0, 3), 2);
            due("turning", x.turning(0, 2), 2);
            due("deep 11", ask(x, "most deep 11"), 0);
            due("deep 3", ask(x, "most deep 3"), 0);
            due("boat 1", ask(x, "most boat 1"), 0);
            due("trills", ask(x, "most trills"), 0);
            // who is not there can't have been early
            wet(x, 4, 2, 1);
            due("early", x.early(1, -1), 1);
            due("early", x.early(1, 0), 1);
            due("stop", x.stop(0, 1, 0), 1);
            due("image", x.image(), 4);
        }
    }

    // ---- PARTS

    private static void partLetters() {
        now = "promise 4, I: BARS: 1 to 12 letters of d, u, r, t; BARS whole, at their first byte";
        for (String one : new String[] {"d", "u", "r", "t", "durtdurtdurt"}) {
            good(DESK + one + ";", 2);
            acts(pit(DESK + one + ";"), 0, one);
        }
        for (String one : new String[] {"durtdurtdurtd", "dx", "xd", "durtdurtdurx", "a", "D", "times", "ddddddddddddddddddddddddd"}) {
            badAt(DESK, one + ";", 1);
            badAt(DESK + "d ", one + ";", 1);
            badAt(DESK + "(d ", one + ")times 2;", 1);
        }
        badAt(DESK + "d", "D;", 1);
    }

    private static void partOrder() {
        now = "promise 4, I: a BAR is a letter, as often as it is told";
        acts(pit(DESK + "d u r t;"), 0, "durt");
        acts(pit(DESK + "du (rt) times 2 (d) times 3 u;"), 0, "durtrtdddu");
        acts(pit(DESK + "((d u) times 2 r) times 2 t;"), 0, "dudurdudurt");
        acts(pit(DESK + "(d (u (r) times 2) times 2) times 2;"), 0, "durrurrdurrurr");
        acts(pit(DESK + "(d)times 2(u)times 3;"), 0, "dduuu");
    }

    private static void partTimes() {
        now = "promise 4, I: ( PART ) times N (2 .. 9)";
        range(DESK + "(d) times ", ";", 2, 9);
        range(DESK + "((d) times ", " u) times 2;", 2, 9);
        acts(pit(DESK + "(du) times 2;"), 0, "dudu");
        acts(pit(DESK + "(du) times 9;"), 0, "du".repeat(9));
    }

    private static void partOpen() {
        now = "promise 4, I: 5 brackets open at once at most; 4 the 6th ( that is open at once, at it";
        String five = "(((((d)times 2)times 2)times 2)times 2)times 2";
        good(DESK + five + ";", 2);
        acts(pit(DESK + five + ";"), 0, "d".repeat(32));
        badAt(DESK + "(((((", "(d)times 2;", 4);
        badAt(DESK + "(((((d ", "(d)times 2;", 4);
        badAt(DESK + "( ( ( ( ( ", "(", 4);
        badAt(DESK + "(((((d)times 2 ", "x", 1);
        badAt(DESK + "(((((", ")", 1);
        // those that are shut count no more
        good(DESK + "((((d)times 2 (u)times 2)times 2 (r)times 2)times 2 (t)times 2)times 2;", 2);
        good(DESK + "(d)times 2".repeat(7) + ";", 2);
        badAt(DESK + "(((((d)times 2 (d)times 2 (d)times 2", ";", 1);
        badAt(DESK + "(((((d)times 2)times 2 ((", "(d", 4);
    }

    private static void part60() {
        now = "promise 4, I: PART: 60 BARS at most; 5 a GROUP by which it has more, at its first byte";
        String[] sixty = {"(" + TWELVE + ")times 5", (TWELVE + " ").repeat(5), "(d)times 9 ".repeat(6) + "dddddd", "((ddd)times 5)times 4", "((d)times 6)times 9 (d)times 6"};
        for (String one : sixty) {
            good(DESK + one + ";", 2);
            due("bars of " + one, pit(DESK + one + ";").desk(0, -1), 60);
            badAt(DESK + one + " ", "d;", 5);
            badAt(DESK + one + " ", "(d)times 2;", 5);
            badAt(DESK + one + " ", TWELVE + ";", 5);
            badAt(DESK + one + "\n ", "u", 5);
            badAt(DESK + one + " ", "(d)times 2 (d)times 2;", 5);
        }
        String fiftyNine = "(" + TWELVE + ")times 4 ddddddddddd";
        due("bars", pit(DESK + fiftyNine + ";").desk(0, -1), 59);
        due("bars", pit(DESK + fiftyNine + " d;").desk(0, -1), 60);
        badAt(DESK + fiftyNine + " ", "dd;", 5);
        badAt(DESK + fiftyNine + " ", "(u)times 2;", 5);
        badAt(DESK + fiftyNine + " d ", "d;", 5);
    }

    private static void partGroups() {
        now = "promise 4, I: 5 a GROUP of a PART itself (not of one in brackets), whole and without another FAULT";
        badAt(DESK, "((" + TWELVE + ")times 6)times 2;", 5);
        badAt(DESK + "d ", "(u (" + TWELVE + ")times 5)times 2;", 5);
        badAt(DESK, "(((((" + TWELVE + ")times 9)times 9)times 9)times 9)times 9;", 5);
        badAt(DESK, "(((((" + (TWELVE + " ").repeat(80) + ")times 9)times 9)times 9)times 9)times 9;", 5);
        // not whole
        badAt(DESK + "((" + TWELVE + ")times 6", ";", 1);
        badAt(DESK + "((" + TWELVE + ")times 6", "", 1);
        badAt(DESK + "((" + TWELVE + ")times 6)", "", 1);
        badAt(DESK + "((" + TWELVE + ")times 6)times", "", 1);
        badAt(DESK + (TWELVE + " ").repeat(5) + "(d", "", 1);
        // another FAULT in it
        badAt(DESK + "(" + TWELVE + ")times ", "10;", 2);
        badAt(DESK + "((" + TWELVE + ")times 6)times ", "1;", 2);
        badAt(DESK + (TWELVE + " ").repeat(5) + "(d ", "x)times 2;", 1);
        badAt(DESK + (TWELVE + " ").repeat(5) + "(d) times ", "0;", 2);
        badAt(DESK + (TWELVE + " ").repeat(5) + "(((((d ", "(", 4);
        badAt(DESK + (TWELVE + " ").repeat(5), "dx;", 1);
        badAt(DESK + (TWELVE + " ").repeat(5), ")", 1);
    }

    private static void partWithout() {
        now = "promise 4, I: PART: GROUP { GROUP }, none without a BAR";
        badAt(DESK, ";", 1);
        badAt(DESK, "", 1);
        badAt(DESK + "(", ")times 2;", 1);
        badAt(DESK + "d (", ")times 2;", 1);
        badAt(DESK, ")", 1);
        badAt(DESK, "times 2;", 1);
        badAt(DESK + "d ", "times 2;", 1);
        badAt(DESK + "(d", ";", 1);
        badAt(DESK + "(d) ", ";", 1);
        badAt(DESK + "(d) ", "2;", 1);
        badAt(DESK + "(d)times 2", ")", 1);
        badAt(DESK + "d", ",u;", 1);
    }

    // ---- promise 17

    private static void taught() {
        now = "promise 17: The tape is a PART, and a DESK's from now on: how many BARS";
        SluicePit x = pit(DESK + "dd;desk b arms 2 plays uu;");
        String sixty = "(" + TWELVE + ")times 5";
        due("one", teach(x, 0, "t"), 1);
        acts(x, 0, "t");
        due("sixty", teach(x, 0, " " + sixty + "\n"), 60);
        acts(x, 0, "d".repeat(60));
        due("fault(0)", x.fault(0), 0);
        due("fault(1)", x.fault(1), -1);
        due("the last DESK", teach(x, 1, "(dr)times 2"), 4);
        acts(x, 1, "drdr");
        due("has(9)", x.has(9), 3);
        due("came", x.sums(60, 0), 64);
        due("the tape goes", tapeIsEmpty(x), true);
        due("a shorter one", teach(x, 0, "u"), 1);
        acts(x, 0, "u");
        due("bar 2", x.desk(0, 2), 2);
        due("bar 60", x.desk(0, 60), 2);
    }

    private static void taughtWrong() {
        now = "promise 17: NONE, doing nothing else, with a FAULT (as in I; 1 also of what stands behind it)";
        String sixty = "(" + TWELVE + ")times 5 ";
        Object[][] all = {{"", 1, 0}, {"   ", 1, 3}, {"d;", 1, 1}, {"d ;", 1, 2}, {"d 7", 1, 2}, {"d7", 1, 1}, {"d)", 1, 1}, {"d x", 1, 2}, {"dx", 1, 0},
            {"(d", 1, 2}, {"(d)", 1, 3}, {"(d)times", 1, 8}, {"(d)times 1", 2, 9}, {"(d)times 10", 2, 9}, {"(d)times 00002", 1, 13}, {TWELVE + "d", 1, 0},
            {"((((((d", 4, 5}, {"(((((d(", 4, 6}, {sixty + "d", 5, 22}, {sixty + "d;", 5, 22}, {sixty + ";", 1, 22}, {"(" + TWELVE + ")times 6 ;", 5, 0},
            {"plays d", 1, 0}, {"river 2;", 1, 0}, {"d" + (char) 9, 1, 1}, {"()times 2", 1, 1}};
        for (Object[] one : all) {
            SluicePit x = pit(DESK + "du;");
            x.mark(0, 1, 1, false);
            due("teach " + one[0], teach(x, 0, (String) one[0]), -1);
            faults(x, (String) one[0], (int) one[1], (int) one[2]);
            due("the tape goes", tapeIsEmpty(x), true);
            due("has(9)", x.has(9), 1);
            acts(x, 0, "ru");
        }
    }

    private static void taughtNobody() {
        now = "promise 17: NONE, doing nothing else, when there is none such";
        for (int desk : new int[] {-1, 2, 8, GREATEST, LEAST}) {
            for (String text : new String[] {"d", "x", ""}) {
                SluicePit x = pit(DESK + "du;desk b arms 2 plays u;");
                teach(x, 1, "dx d");
                faults(x, "dx d", 1, 0);
                due("teach " + desk, teach(x, desk, text), -1);
                due("the tape goes", tapeIsEmpty(x), true);
                due("has(9)", x.has(9), 0);
                faults(x, "nobody", 1, 0);
                acts(x, 0, "du");
                acts(x, 1, "u");
            }
        }
    }

    // ---- promises 5 to 8, 10

    private static void faultLatest() {
        now = "promise 5: Of the latest opera(), teach() or ask()";
        SluicePit x = new SluicePit();
        faults(x, "ahead of any", 0, -1);
        opera(x, "river 13;");
        faults(x, "river 13;", 2, 6);
        opera(x, DESK + "d;");
        faults(x, DESK, 0, -1);
        teach(x, 0, "d d x");
        faults(x, "d d x", 1, 4);
        ask(x, "often not");
        faults(x, "often not", 1, 9);
        teach(x, 0, "d");
        faults(x, "d", 0, -1);
        ask(x, "most ((((((((");
        faults(x, "most ((((((((", 4, 11);
        ask(x, "most bar");
        faults(x, "most bar", 0, -1);
        opera(x, "");
        faults(x, "", 1, 0);
        // by no other call
        x.mark(0, 1, 1, true);
        x.undo();
        wet(x, 1);
        on(x, 7);
        x.image();
        x.mark(7, 1, 1, true);
        faults(x, "other calls", 1, 0);
        wet(x, 1, 1, 1);
        on(x, 1, 0, check(1, 0));
        faults(x, "other calls", 1, 0);
    }

    private static void faultOthers() {
        now = "promise 5: NONE for another what";
        SluicePit x = new SluicePit();
        for (int what : new int[] {-1, 2, 3, LEAST, GREATEST}) due("fault " + what, x.fault(what), -1);
        opera(x, "river 13;");
        for (int what : new int[] {-1, 2, 3, LEAST, GREATEST}) due("fault " + what, x.fault(what), -1);
    }

    private static void hasOthers() {
        now = "promise 6: NONE for others";
        SluicePit x = pit("river 12;bank 1;sluice 4;pit 11;" + DESK.substring(8) + "duu;claque at 0 drinks 1;claque at 0 drinks 1;claque at 0 drinks 1;mill m at 0 needs 1;"
            + "mill n at 0 needs 1;boat z at 0 draft 1;");
        x.mark(0, 9, 9, true);
        has(x, 12, 1, 1, 2, 1, 3, 11, 1, 9, 1);
        for (int what : new int[] {-1, 10, LEAST, GREATEST}) due("has " + what, x.has(what), -1);
        // the longest PART is the longest of all, wherever it stands
        SluicePit y = pit("river 2;desk a arms 1 plays du;desk b arms 1 plays dudu;desk c arms 1 plays dud;");
        due("has(8)", y.has(8), 4);
        y.mark(0, 5, 5, false);
        due("has(8)", y.has(8), 5);
        y.mark(2, 60, 60, false);
        due("has(8)", y.has(8), 60);
    }

    private static void letters() {
        now = "promise 7: Letter k (0 .. 5): 1 .. 26; 0 behind it; NONE when there is none such";
        SluicePit x = pit("river 2;desk z arms 1 plays d;desk azazaz arms 1 plays d;mill bcd at 0 needs 1;boat yx at 0 draft 1;");
        int[][] due = {{0, 0, 26, 0, 0, 0, 0, 0}, {0, 1, 1, 26, 1, 26, 1, 26}, {1, 0, 2, 3, 4, 0, 0, 0}, {2, 0, 25, 24, 0, 0, 0, 0}};
        for (int[] one : due) {
            for (int k = 0; k < 6; k++) due("letter " + k, x.letter(one[0], one[1], k), one[k + 2]);
            for (int k : new int[] {-1, 6, LEAST, GREATEST}) due("letter " + k, x.letter(one[0], one[1], k), -1);
        }
        int[][] none = {{0, 2}, {0, -1}, {1, 1}, {1, -1}, {2, 1}, {2, -1}, {3, 0}, {-1, 0}, {3, 3}, {LEAST, 0}, {GREATEST, 0}, {0, GREATEST}, {0, LEAST}};
        for (int[] one : none) due("letter of " + one[0] + " " + one[1], x.letter(one[0], one[1], 0), -1);
    }

    private static void deskBars() {
        now = "promise 8: in a BAR (1 .. 60); of BAR 0 how many arms, of NONE how many BARS; NONE when there is none such";
        SluicePit x = pit("river 2;desk a arms 1 plays t;desk b arms 9 plays (" + TWELVE + ")times 4 tttttttttttt;");
        int[][] due = {{0, -1, 1}, {0, 0, 1}, {0, 1, 3}, {0, 2, 2}, {0, 59, 2}, {0, 60, 2}, {1, -1, 60}, {1, 0, 9}, {1, 1, 0}, {1, 48, 0}, {1, 49, 3}, {1, 60, 3}};
        for (int[] one : due) due("desk " + one[0] + " " + one[1], x.desk(one[0], one[1]), one[2]);
        for (int desk = 0; desk < 2; desk++) {
            for (int bar : new int[] {-2, 61, LEAST, GREATEST}) due("desk " + desk + " " + bar, x.desk(desk, bar), -1);
        }
        for (int desk : new int[] {-1, 2, LEAST, GREATEST}) {
            for (int bar = -1; bar <= 1; bar++) due("desk " + desk + " " + bar, x.desk(desk, bar), -1);
        }
    }

    private static void cellWhats() {
        now = "promise 10: NONE when there is none such, or for others";
        SluicePit x = pit("river 12;bed 9 at 11;bed 8 at 0;sluice 10;water 99 at 11;water 98 at 0;");
        int[][] due = {{0, 8, 0, 98}, {10, 0, 1, 0}, {11, 9, 0, 99}};
        for (int[] one : due) {
            for (int what = 0; what < 3; what++) due("cell " + one[0] + " " + what, x.cell(one[0], what), one[what + 1]);
            for (int what : new int[] {-1, 3, LEAST, GREATEST}) due("cell " + one[0] + " " + what, x.cell(one[0], what), -1);
        }
        for (int cell : new int[] {-1, 12, LEAST, GREATEST}) {
            for (int what = 0; what < 3; what++) due("cell " + cell + " " + what, x.cell(cell, what), -1);
        }
    }
}
