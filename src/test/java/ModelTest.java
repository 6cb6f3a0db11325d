import java.util.ArrayList;
import java.util.List;
import java.util.Random;

/** Lets the class and the model answer the same calls: made by chance, but the same ones each time. */
public final class ModelTest {
    private static final int RUNS = 400;
    private static final int CALLS = 512;

    private final Random chance;
    private final SluicePit pit = new SluicePit();
    private final Model model = new Model();
    private final List<String> told = new ArrayList<>();
    private int calls = 0;
    private boolean clean = false;
    private static int wrong = 0;
    private static int all = 0;

    private ModelTest(int run) {
        chance = new Random(run);
    }

    public static void main(String[] args) {
        int runs = args.length > 0 ? Integer.parseInt(args[0]) : RUNS;
        int from = args.length > 1 ? Integer.parseInt(args[1]) : 0;
        for (int run = from; run < from + runs && wrong < 5; run++) new ModelTest(run).go(run);
        System.out.println(all + " calls of " + runs + " runs");
        System.out.println(wrong == 0 ? "the class answers as the model" : wrong + " runs with another answer");
        if (wrong != 0) System.exit(1);
    }

    private void go(int run) {
        boolean good = true;
        // An object is used for at most 512 calls; the longest single step makes some 90.
        for (int step = 0; good && calls < CALLS - 100; step++) {
            good = model.has(0) == 0 && step < 4 ? tell(opera(), "opera") : one();
        }
        while (good && calls < CALLS) good = single();
        all += calls;
        if (!good) {
            wrong++;
            System.out.println("run " + run + ": " + String.join("\n  ", told.subList(Math.max(0, told.size() - 12), told.size())));
        }
    }

    private int r(int n) {
        return chance.nextInt(n);
    }

    // Mostly within 0 .. most, at times just outside or far away.
    private int about(int most) {
        int by = r(20);
        if (by == 0) return -1;
        if (by == 1) return most + 1;
        if (by == 2) return new int[] {Integer.MAX_VALUE, Integer.MIN_VALUE, -2, 61, 1000}[r(5)];
        return r(most + 1);
    }

    private boolean same(String call, long got, long due) {
        calls++;
        told.add(call + " answered " + got + ", the model " + due);
        return got == due;
    }

    private boolean same(String call, boolean got, boolean due) {
        return same(call, got ? 1 : 0, due ? 1 : 0);
    }

    private boolean tape(String text) {
        for (int k = 0; k < text.length(); k += 20) {
            int[] five = new int[5];
            for (int i = 0; i < 20; i++) {
                int octet = k + i < text.length() ? text.charAt(k + i) : 32;
                five[i / 4] = five[i / 4] << 8 | octet;
            }
            if (!same("feed", pit.feed(five[0], five[1], five[2], five[3], five[4]), model.feed(five))) return false;
        }
        return same("end", pit.end(text.length()), model.end(text.length()));
    }

    private boolean tell(String text, String call) {
        return tell(text, call, r(9));
    }

    private boolean tell(String text, String call, int desk) {
        if (text.length() > 1600) text = text.substring(0, 1600);
        if (!tape(text)) return false;
        told.add("tape: " + text.replace("\n", "\\n"));
        boolean good;
        switch (call) {
            case "opera": good = same(call, pit.opera(), model.opera()); break;
            case "teach": good = same(call + desk, pit.teach(desk), model.teach(desk)); break;
            case "wet": good = same(call, pit.wet(), model.wet()); break;
            case "on": good = same(call, pit.on(), model.on()); break;
            default: good = same(call, pit.ask(), model.ask()); break;
        }
        return good && same("fault(0)", pit.fault(0), model.fault(0)) && same("fault(1)", pit.fault(1), model.fault(1));
    }

    private boolean one() {
        int a = about(4);
        int b = about(60);
        int what = about(6);
        boolean yes = chance.nextBoolean();
        switch (r(34)) {
            case 0: return r(3) > 0 || tell(opera(), "opera");
            case 1: return same("has " + what, pit.has(what), model.has(what));
            case 2: return hasAll();
            case 3: return letter();
            case 4: return same("desk " + a + " " + b, pit.desk(a, b), model.desk(a, b));
            case 5: return deepAll();
            case 6: return same("cell " + a + " " + what, pit.cell(a, what / 2), model.cell(a, what / 2));
            case 7:
            case 8: return same("sums " + b + " " + what, pit.sums(b, what), model.sums(b, what));
            case 9: return same("led " + a + " " + b, pit.led(a, b), model.led(a, b));
            case 10:
            case 11: return same("boat " + a + " " + b + yes, pit.boat(a, b, yes), model.boat(a, b, yes));
            case 12: return same("first " + a + " " + what, pit.first(a, what / 2), model.first(a, what / 2));
            case 13: return same("turning " + a + " " + b, pit.turning(a, b), model.turning(a, b));
            case 14:
            case 15: return mark();
            case 16: return tell(part(3), "teach");
            case 17: return same("undo", pit.undo(), model.undo());
            case 18: return same("stop " + a + " " + b, pit.stop(a, b, what / 3), model.stop(a, b, what / 3));
            case 19: return same("bring " + a + " " + b, pit.bring(a, b, what / 3), model.bring(a, b, what / 3));
            case 20: return wet();
            case 21: return early();
            case 22: return encore();
            case 23:
            case 24: return trout();
            case 25: return same("seed " + b, pit.seed(b), model.seed(b));
            case 26:
            case 27:
            case 28: return tell(hurt(question()), "ask");
            case 29: return image();
            case 30: return octets();
            case 31: return tell(imageText(), "on");
            case 32: return tell(hurt(part(4)), "teach");
            default: return same("fault " + what, pit.fault(what), model.fault(what));
        }
    }

    // A step of one call alone: by these a run comes to its 512th.
    private boolean single() {
        int a = about(3);
        int b = about(60);
        int what = about(5);
        switch (r(6)) {
            case 0: return mark();
            case 1: return same("undo", pit.undo(), model.undo());
            case 2: return trout();
            case 3: return same("deep " + a + " " + b, pit.deep(a, b), model.deep(a, b));
            case 4: return same("sums " + b + " " + what, pit.sums(b, what), model.sums(b, what));
            default: return same("boat " + a + " " + b, pit.boat(a, b, what > 2), model.boat(a, b, what > 2));
        }
    }

    private boolean hasAll() {
        for (int k = 0; k < 10; k++) if (!same("has " + k, pit.has(k), model.has(k))) return false;
        return true;
    }

    private boolean deepAll() {
        int b = about(60);
        for (int c = 0; c < 12; c += 1 + r(4)) if (!same("deep " + c + " " + b, pit.deep(c, b), model.deep(c, b))) return false;
        return true;
    }

    private boolean letter() {
        int kind = about(2);
        int which = about(3);
        int k = about(6);
        return same("letter", pit.letter(kind, which, k), model.letter(kind, which, k));
    }

    private boolean mark() {
        int d = about(3);
        int from = about(60);
        int to = r(3) == 0 ? about(60) : from + r(9);
        boolean down = chance.nextBoolean();
        return same("mark " + d + " " + from + " " + to + down, pit.mark(d, from, to, down), model.mark(d, from, to, down));
    }

    // Mostly the WATER that is there when a BAR is left out, so that there is somebody to find.
    private boolean wet() {
        int cells = model.has(0);
        StringBuilder b = new StringBuilder();
        int bar = 1 + r(20);
        for (int c = 0; c < cells; c++) b.append((char) Math.max(0, model.deep(c, bar)));
        if (r(6) == 0) b.append('x');
        return tell(b.toString(), "wet") && early(bar);
    }

    private boolean early() {
        return early(about(30));
    }

    private boolean early(int bar) {
        int k = about(3);
        return same("early " + bar, pit.early(bar, -1), model.early(bar, -1))
            && same("early " + bar + " " + k, pit.early(bar, k), model.early(bar, k));
    }

    private boolean encore() {
        int bar = about(60);
        int n = about(30);
        return same("encore " + bar + " " + n, pit.encore(bar, n), model.encore(bar, n));
    }

    private boolean trout() {
        int c = about(4);
        int n = about(50);
        int bar = about(60);
        return same("trout " + c + " " + n + " " + bar, pit.trout(c, n, bar), model.trout(c, n, bar));
    }

    private boolean image() {
        return same("image", pit.image(), model.image()) && octets();
    }

    private boolean octets() {
        for (int i = 0; i < 6; i++) {
            int k = about(70);
            if (!same("octet " + k, pit.octet(k), model.octet(k))) return false;
        }
        return true;
    }

    private String imageText() {
        int desks = model.has(1);
        StringBuilder b = new StringBuilder();
        for (int d = 0; d < desks; d++) {
            int n = r(40) == 0 ? 61 : r(9) == 0 ? 60 : r(7);
            b.append((char) n);
            for (int k = 0; k < n; k++) b.append((char) (r(300) == 0 ? 4 : r(4)));
        }
        int c = 149;
        for (int k = 0; k < b.length(); k++) c = (3 * c + b.charAt(k)) % 251;
        b.append((char) (r(9) == 0 ? r(256) : c));
        if (r(20) == 0) b.append((char) r(256));
        if (r(20) == 0) b.setLength(r(b.length()));
        return b.toString();
    }

    // ---- texts by chance

    private String hurt(String text) {
        if (r(4) != 0 || text.isEmpty()) return text;
        StringBuilder b = new StringBuilder(text);
        String signs = " ;()[],+-*/<>=dxz059\n\t@`{AZ~" + (char) 200;
        for (int n = 1 + r(2); n > 0; n--) {
            int k = r(b.length() + 1);
            int how = r(4);
            if (how == 0 && k < b.length()) b.deleteCharAt(k);
            else if (how == 1) b.insert(k, signs.charAt(r(signs.length())));
            else if (how == 2 && k < b.length()) b.setCharAt(k, signs.charAt(r(signs.length())));
            else if (b.length() > 0) b.setLength(k);
            if (b.length() == 0) return "";
        }
        return b.toString();
    }

    private String n(int low, int high) {
        int by = clean ? 9 : r(60);
        if (by == 0) return "" + (high + 1);
        if (by == 1) return "" + (low - 1 < 0 ? high + 1 : low - 1);
        if (by == 2) return "0" + (low + r(high - low + 1));
        if (by == 3) return "12345";
        return "" + (low + r(high - low + 1));
    }

    private String name() {
        if (!clean && r(20) == 0) return new String[] {"at", "plays", "abcdefg", "waterx", "timesxx", "a", "b", "x1"}[r(8)];
        StringBuilder b = new StringBuilder();
        for (int k = clean ? 6 : 1 + r(6); k > 0; k--) b.append((char) ('a' + r(26)));
        return b.toString();
    }

    private String part(int deep) {
        StringBuilder b = new StringBuilder();
        for (int groups = 1 + r(3); groups > 0; groups--) {
            if (r(3) == 0 && deep > 0) {
                b.append('(').append(part(r(30) == 0 ? deep + 3 : deep - 1)).append(")").append(r(2) == 0 ? " times " : "times ").append(n(2, r(4) == 0 ? 9 : 3));
            } else {
                for (int k = r(60) == 0 ? 13 : 1 + r(r(4) == 0 ? 12 : 4); k > 0; k--) b.append("dddurrt".charAt(r(7)));
            }
            b.append(r(2) == 0 ? " " : "\n");
        }
        return b.toString();
    }

    // A clean one has no FAULT, but for a PART that is too long at times.
    private String opera() {
        clean = r(4) > 0;
        int cells = 2 + r(r(3) == 0 ? 11 : 4);
        StringBuilder b = new StringBuilder("river " + cells + ";");
        boolean long_ = r(40) == 0;
        int[] room = {8, cells - 1, 4, 4, 4};
        int sluice = 0;
        for (int k = long_ ? 66 + r(8) : 5 + r(24); k > 0; k--) {
            String cell = n(0, cells - 1);
            String here = n(0, r(2) == 0 ? 0 : cells - 1);
            int kind = long_ ? 6 : r(18);
            int slot = kind >= 3 && kind <= 5 ? 0 : kind == 7 ? 1 : kind == 8 ? 2 : kind == 9 || kind == 10 || kind > 12 ? 3 : kind == 11 ? 4 : -1;
            if (clean && slot >= 0 && room[slot]-- <= 0) continue;
            switch (kind) {
                case 0: b.append("bed " + n(0, 9) + " at " + cell); break;
                case 1:
                case 2: b.append("water " + n(0, r(2) == 0 ? 12 : 99) + " at " + cell); break;
                case 3:
                case 4:
                case 5: b.append("desk " + name() + " arms " + n(1, 9) + " plays " + part(clean ? 1 : 2)); break;
                case 6: b.append("pit " + here); break;
                case 7: b.append("sluice " + (clean ? "" + sluice++ : n(0, cells - 2))); break;
                case 8: b.append("mill " + name() + " at " + cell + " needs " + n(1, r(2) == 0 ? 9 : 99)); break;
                case 11: b.append("claque at " + cell + " drinks " + n(1, r(2) == 0 ? 2 : 9)); break;
                case 12: b.append("bank " + n(1, r(2) == 0 ? 9 : 99)); break;
                default: b.append("boat " + name() + " at " + here + " draft " + n(1, r(3) != 0 ? 6 : 99)); break;
            }
            b.append(r(3) == 0 ? " ; " : ";");
        }
        String text = clean ? b.toString() : hurt(b.toString());
        clean = false;
        return text;
    }

    private String question() {
        int how = r(6);
        if (how < 3) return new String[] {"first ", "last ", "often "}[how] + test(3);
        return new String[] {"total ", "most ", "least "}[how - 3] + sum(3);
    }

    private String test(int deep) {
        String t = both(deep);
        while (r(4) == 0) t += " or " + both(deep);
        return t;
    }

    private String both(int deep) {
        String t = fact(deep);
        while (r(4) == 0) t += " and " + fact(deep);
        return t;
    }

    private String fact(int deep) {
        int how = r(9);
        if (how == 0 && deep > -4) return "not " + fact(deep - 1);
        if (how == 1 && deep > -4) return "[" + test(deep - 1) + "]";
        if (how == 2) return "all";
        return sum(deep) + "<>=".charAt(r(3)) + sum(deep);
    }

    private String sum(int deep) {
        String t = product(deep);
        while (r(4) == 0) t += (r(2) == 0 ? "+" : " - ") + product(deep);
        return t;
    }

    private String product(int deep) {
        String t = piece(deep);
        while (r(4) == 0) t += (r(2) == 0 ? "*" : " / ") + piece(deep);
        return t;
    }

    private String piece(int deep) {
        int how = r(deep > 0 ? 16 : deep > -5 && r(6) == 0 ? 16 : 7);
        switch (how) {
            case 0: return "" + r(r(3) == 0 ? 10000 : 13);
            case 1: return "bar";
            case 2: return "came";
            case 3: return "out";
            case 4: return "drunk";
            case 5: return "spilt";
            case 6: return "trills";
            case 7:
            case 8:
            case 9: return "deep " + piece(deep - 1);
            case 10:
            case 11: return "boat " + piece(deep - 1);
            case 12: return "(" + sum(deep - 1) + ")";
            case 13: return "min (" + sum(deep - 1) + "," + sum(deep - 1) + ")";
            case 14: return "max(" + sum(deep - 1) + " , " + sum(deep - 1) + ")";
            default: return "" + r(4);
        }
    }
}
