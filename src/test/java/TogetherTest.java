import java.util.ArrayList;
import java.util.List;

/**
 * Sentences of the document held together: what a refused call leaves as it was, a new opera over an old one, acts,
 * images and what is told by wet() between them, runs up to the 512th call. Two objects are often told the same, but one of
 * them something more, of which the document says that it changes nothing: then both must answer alike ever after.
 */
public final class TogetherTest extends Told {
    // Some of its CELLS run dry at times, so that trout are lost; its BOATS are aground and arrive by silent DESKS.
    private static final String RICH = "river 5; bed 4 at 0; bed 4 at 1; water 9 at 0; water 1 at 2; "
        + "desk vio arms 9 plays (d u r) times 4 t; desk cel arms 4 plays rrtd (du) times 3; desk bas arms 8 plays d; "
        + "pit 1; sluice 1; sluice 3; mill mo at 1 needs 4; mill na at 4 needs 1; boat bo at 0 draft 1; boat ci at 1 draft 1; "
        + "claque at 1 drinks 4; claque at 4 drinks 1; bank 5;";
    private static final String POOR = "river 2; desk a arms 1 plays dd; boat b at 0 draft 1;";

    private interface Step {
        void on(SluicePit x);
    }

    public static void main(String[] args) {
        readme();
        refusedNumbers();
        refusedTexts();
        refusedWithoutRiver();
        askingChangesNothing();
        newOverOld();
        smallOverGreat();
        wetBetween();
        wetAndOperas();
        actsBetweenImages();
        imagesOfOthers();
        drawsGoOn();
        faultsBetween();
        marksToTheLastCall();
        operasToTheLastCall();
        tapesToTheLastCall();
        draws();
        close();
    }

    // ---- what is told of an object

    // A river with acts, an image, told WATER, a seed, a FAULT, and bytes on the tape.
    private static SluicePit rich() {
        SluicePit x = pit(RICH);
        x.seed(77);
        x.image();
        x.mark(0, 2, 3, true);
        teach(x, 1, "(dt) times 5");
        // What is there in BAR 3: some BAR left out changes nothing of it.
        wet(x, 5, 5, 5, 4, 1);
        ask(x, "total spot");
        tape(x, "dudu");
        return x;
    }

    private static List<Long> whole(SluicePit x) {
        List<Long> all = new ArrayList<>();
        for (int what = -1; what <= 10; what++) all.add((long) x.has(what));
        all.add((long) x.fault(0));
        all.add((long) x.fault(1));
        for (int kind = 0; kind <= 2; kind++) for (int which = 0; which <= 2; which++) all.add((long) x.letter(kind, which, 1));
        for (int d = 0; d <= 2; d++) for (int b = -1; b <= 14; b++) all.add((long) x.desk(d, b));
        for (int c = 0; c <= 4; c++) for (int b = 0; b <= 16; b += 2) all.add((long) x.deep(c, b));
        for (int c = 0; c <= 4; c++) for (int what = 0; what <= 2; what++) all.add((long) x.cell(c, what));
        for (int what = 0; what <= 5; what++) all.add((long) x.sums(60, what));
        for (int d = 0; d <= 2; d++) all.add((long) x.led(d, 60));
        for (int i = 0; i <= 1; i++) for (int b = 0; b <= 12; b += 3) all.add((long) x.boat(i, b, b % 2 == 0));
        for (int i = 0; i <= 1; i++) for (int what = 0; what <= 2; what++) all.add((long) x.first(i, what));
        for (int m = 0; m <= 1; m++) all.add((long) x.turning(m, 60));
        for (int what = 0; what <= 1; what++) all.add((long) x.stop(0, 4, what));
        for (int what = 0; what <= 1; what++) all.add((long) x.bring(1, 9, what));
        for (int b = 1; b <= 9; b++) all.add((long) x.early(b, -1));
        all.add((long) x.encore(3, 9));
        for (int k = -1; k <= 30; k++) all.add((long) x.octet(k));
        for (int i = 0; i < 4; i++) all.add((long) x.trout(i, 20, 6));
        return all;
    }

    private static void alike(String what, SluicePit x, SluicePit y) {
        List<Long> got = whole(x);
        List<Long> want = whole(y);
        for (int k = 0; k < want.size(); k++) due(what + ": answer " + k, got.get(k), want.get(k));
    }

    // The tape stays, too: what lies on it is a PART of four BARS.
    private static void stays(String what, Step step) {
        SluicePit x = rich();
        step.on(x);
        alike(what, x, rich());
        due(what + ": the tape", x.teach(0), 4);
        due(what + ": undone", x.undo(), true);
        due(what + ": the latest ACT", x.undo() && x.undo() && !x.undo(), true);
        acts(x, 0, "durdurdurdurt");
        acts(x, 1, "rrtddududu");
    }

    // The tape goes, all else stays, but for the FAULT that is due.
    private static void goes(String text, int kind, int place, Step step) {
        SluicePit x = rich();
        tape(x, text);
        step.on(x);
        due("the tape behind " + text, tapeIsEmpty(x), true);
        faults(x, text, kind, place);
        SluicePit y = rich();
        y.end(0);
        // Now both have the same FAULT again.
        ask(x, "spot");
        ask(y, "spot");
        alike(text, x, y);
    }

    private static void readme() {
        now = "README";
        SluicePit pit = new SluicePit();
        due("feed", pit.feed(0x72697665, 0x7220323b, 0x77617465, 0x72203820, 0x61742030), 20);
        due("feed", pit.feed(0x3b202020, 0x20202020, 0x20202020, 0x20202020, 0x20202020), 40);
        due("end", pit.end(21), true);
        due("opera", pit.opera(), 2);
        due("deep", pit.deep(0, 1), 4);
        due("an opera", opera(pit, "river 3; water 9 at 0; desk vio arms 4 plays d (ur) times 2;"), 3);
        due("a PART", teach(pit, 0, "dd (ut) times 3"), 8);
        // 13, 0, 0: 6 and 3 flow on, 1 of these runs out; then 11, 3, 2: 4 and 2, 2 run out.
        deep(pit, 1, 7, 3, 2);
        deep(pit, 2, 7, 5, 2);
        due("a first BAR", ask(pit, "first deep 1 > 4"), 2);
        // Came are 0, 4, 8 and 8 ever after: 4 and 59 times 8 are 476 together.
        due("all that came", ask(pit, "total came"), 476);
        due("came and ran out", ask(pit, "total came - out") < 476, true);
    }

    // ---- refused calls

    private static void refusedNumbers() {
        now = "refused, all staying";
        int[] far = {LEAST, -2, 61, 99, GREATEST};
        stays("end", x -> due("end", x.end(-1) || x.end(5) || x.end(GREATEST) || x.end(LEAST), false));
        stays("seed", x -> due("seed", x.seed(-1) || x.seed(LEAST), false));
        stays("mark", x -> {
            for (int n : far) due("mark", x.mark(n, 1, 1, true), -1);
            for (int n : far) due("mark", x.mark(0, n, 60, true), -1);
            for (int n : far) due("mark", x.mark(0, 1, n, false), -1);
            due("mark", x.mark(3, 1, 1, true) + x.mark(-1, 1, 1, true) + x.mark(0, 0, 1, true) + x.mark(0, 1, 0, true)
                + x.mark(0, 9, 8, true), -5);
        });
        stays("trout", x -> {
            for (int n : far) due("trout", x.trout(n, 1, 60), -1);
            for (int n : far) due("trout", x.trout(0, n == 61 ? 51 : n, 60), -1);
            for (int n : far) due("trout", x.trout(0, 1, n), -1);
            due("trout", x.trout(5, 1, 1) + x.trout(-1, 1, 1) + x.trout(0, 0, 1) + x.trout(0, 1, -1), -4);
        });
        stays("who", x -> {
            for (int n : far) due("stop", x.stop(n, 1, 0) + x.stop(0, n, 0) + x.stop(0, 1, n), -3);
            for (int n : far) due("bring", x.bring(n, 1, 0) + x.bring(0, n, 0) + x.bring(0, 1, n), -3);
            for (int n : far) due("early", x.early(n, -1) + x.early(1, n), -2);
            for (int n : far) due("encore", x.encore(n, 1) + x.encore(0, n), -2);
        });
        stays("told", x -> {
            for (int n : far) due("deep", x.deep(n, 0) + x.deep(0, n) + x.cell(n, 0) + x.cell(0, n) + x.octet(n == 61 ? LEAST : n), -5);
            for (int n : far) due("desk", x.desk(n, 1) + x.desk(0, n) + x.led(n, 0) + x.led(0, n) + x.sums(n, 0) + x.sums(0, n), -6);
            for (int n : far) due("boat", x.boat(n, 0, true) + x.boat(0, n, false) + x.first(n, 0) + x.first(0, n), -4);
            for (int n : far) due("mill", x.turning(n, 0) + x.turning(0, n) + x.has(n) + x.fault(n), -4);
            for (int n : far) due("letter", x.letter(n, 0, 0) + x.letter(0, n, 0) + x.letter(0, 0, n), -3);
        });
    }

    private static void refusedTexts() {
        now = "a text refused, all else staying";
        String[] texts = {"", " \n", "river 13;", RICH + "river 2;", RICH + "desk vio arms 1 plays d;",
            "river 2;desk a arms 1 plays ((((((d) times 2) times 2) times 2) times 2) times 2) times 2;",
            "river 2;desk a arms 1 plays dddddddddddd (dddddddddddd) times 5;", "river 2;sluice 0;sluice 0;",
            "river 2;water 9 at 1;bed 9 at 0;pit 1;bank 1;desk b arms 9 plays d"};
        int[] kinds = {1, 1, 2, 1, 3, 4, 5, 2, 1};
        int[] places = {0, 2, 6, RICH.length(), RICH.length() + 5, 33, 41, 24, 66};
        for (int i = 0; i < texts.length; i++) goes(texts[i], kinds[i], places[i], x -> due("opera", x.opera(), -1));
        goes("dd(u)times 1", 2, 11, x -> due("teach", x.teach(0), -1));
        goes("dd x", 1, 3, x -> due("teach", x.teach(0), -1));
        goes("(dddddddddddd)times 6", 5, 0, x -> due("teach", x.teach(2), -1));
        goes("first 7", 1, 7, x -> due("ask", x.ask(), NOTHING));
        goes("most not", 1, 5, x -> due("ask", x.ask(), NOTHING));
        // These have no FAULT of their own: the one that was there stays ("total spot" at 6).
        goes("dd", 1, 6, x -> due("teach", x.teach(3), -1));
        goes("x", 1, 6, x -> due("teach", x.teach(-1), -1));
        goes("1234", 1, 6, x -> due("wet", x.wet(), false));
        goes("123456", 1, 6, x -> due("wet", x.wet(), false));
        goes("", 1, 6, x -> due("on", x.on(), false));
        goes("\u0001\u0000\u0000\u0000\u0000", 1, 6, x -> due("on", x.on(), false));
    }

    private static void refusedWithoutRiver() {
        now = "without a river";
        SluicePit x = new SluicePit();
        teach(x, 0, "x");
        wet(x);
        wet(x, 1, 2);
        ask(x, "spot");
        on(x, 149);
        due("acts", x.mark(0, 1, 1, true) + x.teach(0) + (x.undo() ? 0 : -1), -3);
        due("sums", x.sums(0, 0) + x.encore(0, 1) + x.early(1, -1) + x.trout(0, 1, 0), -4);
        faults(x, "nothing read", 0, -1);
        x.end(0);
        opera(x, POOR);
        SluicePit y = pit(POOR);
        alike("as a new one", x, y);
    }

    private static void askingChangesNothing() {
        now = "what is asked changes nothing";
        SluicePit x = rich();
        SluicePit y = rich();
        for (int b = 1; b <= 60; b += 13) {
            x.stop(0, b, 0);
            x.bring(1, b, 1);
            x.early(b, 0);
            x.encore(60 - b, 1);
            x.encore(0, 30);
        }
        alike("asked", x, y);
        SluicePit z = rich();
        for (String one : List.of("first all", "total came", "often deep 3>0", "least 0-bar")) ask(z, one);
        SluicePit w = rich();
        ask(w, "last all");
        alike("a QUESTION", z, w);
    }

    // ---- a new opera over an old one

    private static void newOverOld() {
        now = "a new opera over an old one";
        for (String text : List.of(POOR, "river 12;", "river 3; pit 2; water 99 at 2;", RICH + "sluice 0;")) {
            SluicePit x = rich();
            // Twice, as a new opera may lie where the last but one lay.
            opera(x, RICH + "bed 9 at 3; bed 9 at 4; sluice 2;");
            opera(x, text);
            SluicePit y = pit(text);
            y.seed(77);
            due("undo", x.undo(), false);
            due("early", x.early(1, -1), -1);
            due("the old image's last byte", x.octet(27), lastOfRich());
            due("octet", x.octet(28), -1);
            due("image", x.image(), y.image());
            alike(text, x, y);
        }
    }

    private static int lastOfRich() {
        return check(13, 0, 1, 2, 0, 1, 2, 0, 1, 2, 0, 1, 2, 3, 10, 2, 2, 3, 0, 0, 1, 0, 1, 0, 1, 1, 0);
    }

    private static void smallOverGreat() {
        now = "the little one behind the great one";
        SluicePit x = rich();
        opera(x, "river 2; water 6 at 0;");
        has(x, 2, 0, 0, 0, 0, 0, 0, 99, 0, 0);
        deep(x, 0, 6, 0);
        deep(x, 1, 3, 2);
        deep(x, 2, 3, 1);
        deep(x, 3, 2, 1);
        due("no third CELL", x.deep(2, 0) + x.cell(2, 0) + x.trout(2, 1, 0), -3);
        due("nobody", x.desk(0, 0) + x.led(0, 0) + x.letter(0, 0, 0) + x.letter(1, 0, 0) + x.letter(2, 0, 0), -5);
        due("no boat, no mill", x.boat(0, 0, false) + x.first(0, 2) + x.turning(0, 0) + x.stop(0, 0, 0) + x.bring(0, 0, 0), -5);
        due("a bed, a sluice, WATER", x.cell(1, 0) + x.cell(1, 1) + x.cell(1, 2), 0);
        due("came", x.sums(60, 0), 0);
        due("image", x.image(), 1);
        due("trills", ask(x, "often trills>0 or deep 2>0 or boat 1>0"), 0);
        due("five bytes", wet(x, 1, 2, 3, 4, 5), false);
        due("two bytes", wet(x, 3, 2), true);
        due("nobody was early", x.early(1, -1), 0);
    }

    // ---- what is told by wet()

    private static void wetBetween() {
        now = "wet() ahead of acts and images is as behind them";
        String text = "river 2; desk a arms 4 plays dud; desk b arms 2 plays ddr; water 3 at 0; pit 0;";
        Step[] steps = {
            x -> x.mark(0, 2, 2, true),
            x -> x.mark(1, 1, 2, false),
            x -> teach(x, 1, "(dr) times 2"),
            x -> {
                x.mark(0, 1, 9, false);
                x.undo();
            },
            x -> on(x, 2, 0, 0, 1, 0, check(2, 0, 0, 1, 0)),
            x -> on(x, 9),
            x -> teach(x, 0, "never"),
            x -> opera(x, "never"),
        };
        for (Step step : steps) {
            SluicePit y = pit(text);
            step.on(y);
            for (int b = 1; b <= 4; b++) {
                SluicePit x = pit(text);
                // What would be there without the first BAR of DESK 1, as the PARTS are at last.
                SluicePit z = pit(text);
                step.on(z);
                leaveOutFirst(z, 1);
                due("wet", wet(x, z.deep(0, b), z.deep(1, b)), true);
                step.on(x);
                wet(y, z.deep(0, b), z.deep(1, b));
                int many = x.early(b, -1);
                due("how many in " + b, many, y.early(b, -1));
                due("DESK 1's first BAR is among them", among(x, b, 101), true);
                for (int k = 0; k <= many; k++) due("the " + k + "th", x.early(b, k), y.early(b, k));
            }
        }
    }

    private static void leaveOutFirst(SluicePit x, int desk) {
        StringBuilder part = new StringBuilder();
        for (int b = 2; b <= x.desk(desk, -1); b++) part.append("durt".charAt(x.desk(desk, b)));
        if (part.length() == 0) part.append('r');
        due("taught", teach(x, desk, part.toString()), part.length());
    }

    private static boolean among(SluicePit x, int bar, int asked) {
        for (int k = 0; k < x.early(bar, -1); k++) if (x.early(bar, k) == asked) return true;
        return false;
    }

    private static void wetAndOperas() {
        now = "wet() and operas";
        SluicePit x = pit(POOR);
        due("ahead of any", x.early(1, -1), -1);
        due("told", wet(x, 0, 0), true);
        due("told", x.early(1, -1), 0);
        due("a wrong one", wet(x, 0), false);
        due("still told", x.early(1, -1), 0);
        opera(x, "river");
        due("behind a FAULT", x.early(1, -1), 0);
        opera(x, POOR);
        due("behind the same opera", x.early(1, -1), -1);
        due("a wrong one", wet(x, 0), false);
        due("still nothing", x.early(1, -1), -1);
        wet(x, 1, 0);
        due("told anew", x.early(2, -1), 2);
        due("both BARS of DESK 0", x.early(2, 0) * 1000 + x.early(2, 1), 1002);
    }

    // ---- acts and images

    private static void actsBetweenImages() {
        now = "acts and images";
        SluicePit x = pit(POOR);
        due("image", x.image(), 4);
        due("mark", x.mark(0, 4, 4, true), 1);
        due("teach", teach(x, 0, "tu"), 2);
        due("two ACTS", x.has(9), 2);
        due("a wrong one", on(x, 2, 0, 0, 1), false);
        due("still two ACTS", x.has(9), 2);
        acts(x, 0, "tu");
        due("on", on(x, x.octet(0), x.octet(1), x.octet(2), x.octet(3)), true);
        acts(x, 0, "dd");
        due("no ACT", x.has(9), 0);
        due("undo", x.undo(), false);
        due("the same byte", x.octet(3), check(2, 0, 0));
        due("image", x.image(), 4);
        due("mark", x.mark(0, 1, 1, false), 1);
        due("the latest image stays", x.octet(1), 0);
        due("undo", x.undo(), true);
        acts(x, 0, "dd");
        due("without a BAR", on(x, 0, check(0)), true);
        acts(x, 0, "");
        due("the longest", x.has(8), 0);
        due("came", x.sums(60, 0), 0);
        due("no BAR to leave out", wet(x, 0, 0) ? x.early(9, -1) : -9, 0);
        due("mark", x.mark(0, 3, 3, true), 1);
        acts(x, 0, "rrd");
        due("undo", x.undo(), true);
        acts(x, 0, "");
        due("sixty", teach(x, 0, "(dddddd) times 5 (u) times 9 (t) times 9 (rrrr) times 3"), 60);
        due("image", x.image(), 62);
        due("undo", x.undo(), true);
        due("image", x.image(), 2);
        due("octet", x.octet(2), -1);
    }

    private static void imagesOfOthers() {
        now = "an image of another opera";
        SluicePit x = pit(POOR);
        int[] rich = new int[28];
        SluicePit y = rich();
        for (int k = 0; k < rich.length; k++) rich[k] = y.octet(k);
        due("of three DESKS", on(x, rich), false);
        due("of the one that it is of", on(y, rich), true);
        acts(y, 0, "durdurdurdurt");
        acts(y, 1, "rrtddududu");
        acts(y, 2, "d");
        opera(x, "river 12; desk z arms 9 plays u;");
        due("of another river, of as many DESKS", on(x, 2, 3, 3, check(2, 3, 3)), true);
        acts(x, 0, "tt");
        opera(x, "river 12;");
        due("of nobody", on(x, 149), true);
        due("of nobody, wrong", on(x, 148), false);
    }

    // ---- the seed, FAULTS

    private static void drawsGoOn() {
        now = "draws";
        SluicePit x = pit("river 2; water 9 at 0; water 9 at 1; desk a arms 9 plays (d) times 9 (d) times 9; pit 0;");
        due("all swim in BARS 1 .. 9", x.trout(0, 50, 9), 50);
        opera(x, POOR);
        opera(x, "never");
        x.undo();
        on(x, 2, 0, 0, check(2, 0, 0));
        due("all are left in BAR 0", x.trout(1, 50, 0), 50);
        opera(x, RICH);
        SluicePit y = pit(RICH);
        y.seed(seedBehind(1, 450));
        SluicePit z = pit(RICH);
        z.seed(seedBehind(1, 451));
        drawAlike(x, y, z);
    }

    // Both draw the same, and a third one, by a DRAW ahead or behind, does not.
    private static void drawAlike(SluicePit x, SluicePit y, SluicePit z) {
        int others = 0;
        for (int i = 0; i < 9; i++) {
            int left = x.trout(i % 5, 50, 6);
            due("trout " + i, left, y.trout(i % 5, 50, 6));
            if (left != z.trout(i % 5, 50, 6)) others++;
        }
        due("another seed draws otherwise", others > 0, true);
    }

    private static int seedBehind(long seed, int draws) {
        long x = seed;
        for (int i = 0; i < draws; i++) x = (1103515245L * x + 12345) % 2147483648L;
        return (int) x;
    }

    private static void faultsBetween() {
        now = "fault() is of the latest text";
        SluicePit x = pit(RICH);
        faults(x, "none", 0, -1);
        teach(x, 0, "dd;");
        faults(x, "teach", 1, 2);
        wet(x, 1);
        wet(x, 1, 2, 3, 4, 5);
        on(x, 1);
        x.undo();
        x.mark(0, 1, 1, true);
        x.end(99);
        faults(x, "teach still", 1, 2);
        ask(x, "often [[[[[[not all]]]]]]");
        faults(x, "ask", 4, 12);
        ask(x, "often all");
        faults(x, "ask", 0, -1);
        opera(x, "river 2;bank 100;");
        faults(x, "opera", 2, 13);
        teach(x, 2, "d");
        faults(x, "teach", 0, -1);
    }

    // ---- up to the 512th call

    private static void marksToTheLastCall() {
        now = "512 calls: acts";
        // Six calls tell the opera, 480 are ACTS, 21 undo, five look: the last of them is the 512th.
        SluicePit x = pit(POOR);
        int otherwise = 0;
        for (int i = 0; i < 480; i++) otherwise += x.mark(0, 1 + i % 60, 1 + i % 60, i / 60 % 2 == 0);
        due("all were otherwise, but its own two downs in the first round", otherwise, 478);
        for (int i = 0; i < 20; i++) due("undo " + i, x.undo(), true);
        due("the 21st", x.undo(), false);
        due("a rest of the last round", x.desk(0, 40), 2);
        due("a down of the round ahead of it", x.desk(0, 41), 0);
        due("BARS", x.desk(0, -1), 60);
        due("led", x.led(0, 60), 20);
        due("came", x.sums(60, 0), 20);
    }

    private static void operasToTheLastCall() {
        now = "512 calls: operas";
        SluicePit x = new SluicePit();
        String one = "river 2; water 8 at 0;";
        String other = "river 3; bank 4; pit 1; desk abc arms 7 plays (dt) times 9; sluice 0;";
        // Four and six calls to tell them, one each to read, eight to look: 25 rounds of 20 calls make 500.
        for (int round = 0; round < 25; round++) {
            due("opera", opera(x, one), 2);
            has(x, 2, 0);
            deep(x, 1, 4, 2);
            due("opera", opera(x, other), 5);
            has(x, 3, 1);
            deep(x, 1, 0, 4);
        }
        // BAR 3: 3 and 7 inches, 4 of them flow on, 6 are there, the bank has room for 4.
        due("spilt", x.sums(2, 3), 0);
        due("spilt", x.sums(3, 3), 2);
        due("the last round's DESK", x.letter(0, 0, 2), 3);
    }

    private static void tapesToTheLastCall() {
        now = "512 calls: the tape";
        SluicePit x = pit("river 2; desk a arms 1 plays d;");
        for (int round = 0; round < 5; round++) {
            for (int k = 1; k <= 80; k++) due("feed", x.feed(0x20202020, 0x20202020, 0x20202020, 0x20202020, 0x20202064), 20 * k);
            due("feed", x.feed(0, 0, 0, 0, 0), -1);
            due("feed", x.feed(-1, -1, -1, -1, -1), -1);
            due("end", x.end(1601), false);
            // A BAR behind nineteen blanks each time: 80 of them, the 61st is too much.
            due("teach", x.teach(0), -1);
            due("fault", x.fault(0), 5);
            due("place", x.fault(1), 60 * 20 + 19);
            due("the tape", x.end(0), true);
        }
        due("60 of them", feedBars(x, 60), 60);
        due("its last BAR", x.desk(0, 60), 0);
    }

    private static int feedBars(SluicePit x, int bars) {
        for (int k = 1; k <= bars; k++) x.feed(0x20202020, 0x20202020, 0x20202020, 0x20202020, 0x20202064);
        return x.teach(0);
    }

    // Each trout of a river that is wet everywhere makes a DRAW in each BAR, so the seed is known at the end.
    private static void draws() {
        now = "512 calls: draws";
        String text = "river 2; water 99 at 0; water 99 at 1; desk a arms 9 plays (dddddd) times 9 dddddd; pit 0;";
        SluicePit x = pit(text);
        // Six calls tell it, 20 tell RICH; with nine at the end some 500 are made.
        for (int call = 0; call < 470; call++) due("trout", x.trout(1, 50, 60), 50);
        opera(x, RICH);
        SluicePit y = pit(RICH);
        y.seed(seedBehind(1, 470 * 50 * 60));
        SluicePit z = pit(RICH);
        drawAlike(x, y, z);
    }
}
