import java.util.ArrayDeque;
import java.util.ArrayList;
import java.util.Arrays;
import java.util.List;
import java.util.function.IntBinaryOperator;
import java.util.function.IntUnaryOperator;

/**
 * The document told a second time, in another way than the class: texts cut by exceptions, questions as trees,
 * every answer reckoned anew from BAR 0. ModelTest lets both answer the same calls.
 */
final class Model {
    private static final List<String> OWN = List.of("river", "bed", "at", "water", "desk", "arms", "plays", "pit",
        "sluice", "mill", "needs", "boat", "draft", "claque", "drinks", "bank", "times");

    private static final class Fault extends RuntimeException {
        private static final long serialVersionUID = 1L;
        final int kind;
        final int place;

        Fault(int kind, int place) {
            this.kind = kind;
            this.place = place;
        }
    }

    private static final class Thing {
        String name = "";
        int cell;
        int amount;
    }

    private static final class Work {
        int statements;
        int cells;
        int pit;
        int bank = 99;
        int[] bed = new int[0];
        int[] water = new int[0];
        boolean[] sluice = new boolean[0];
        final List<Thing> desks = new ArrayList<>();
        final List<Thing> mills = new ArrayList<>();
        final List<Thing> boats = new ArrayList<>();
        final List<Thing> claques = new ArrayList<>();
        final List<String> parts = new ArrayList<>();
    }

    private static final class State {
        int[] water;
        int[] boats;
        int came;
        int out;
        int drunk;
        int spilt;
        boolean trill;
    }

    private String tape = "";
    private Work work = new Work();
    private int faultKind = 0;
    private int faultPlace = -1;
    private final ArrayDeque<List<String>> undoable = new ArrayDeque<>();
    private String wetTold = null;
    private long x = 1;
    private String image = "";

    // ---- the tape

    int feed(int... five) {
        if (tape.length() + 20 > 1600) return -1;
        StringBuilder b = new StringBuilder(tape);
        for (int n : five) {
            b.append((char) (n >>> 24)).append((char) (n >>> 16 & 255)).append((char) (n >>> 8 & 255)).append((char) (n & 255));
        }
        tape = b.toString();
        return tape.length();
    }

    boolean end(int n) {
        if (n < 0 || n > tape.length()) return false;
        tape = tape.substring(0, n);
        return true;
    }

    private String takeTape() {
        String t = tape;
        tape = "";
        return t;
    }

    // ---- cutting texts

    private static final class Cutter {
        final String t;
        int p = 0;

        Cutter(String t) {
            this.t = t;
        }

        void blanks() {
            while (p < t.length() && (t.charAt(p) == ' ' || t.charAt(p) == '\n')) p++;
        }

        static boolean letter(char c) {
            return "abcdefghijklmnopqrstuvwxyz".indexOf(c) >= 0;
        }

        static boolean digit(char c) {
            return "0123456789".indexOf(c) >= 0;
        }

        boolean more() {
            blanks();
            return p < t.length();
        }

        Fault bad() {
            blanks();
            return new Fault(1, p);
        }

        // The word that stands next, or "" when there is none that may stand there.
        String peekWord() {
            blanks();
            if (p > 0 && p < t.length() && digit(t.charAt(p - 1))) return "";
            int q = p;
            while (q < t.length() && letter(t.charAt(q))) q++;
            return t.substring(p, q);
        }

        boolean peek(char c) {
            blanks();
            return p < t.length() && t.charAt(p) == c;
        }

        boolean peekDigit() {
            blanks();
            return p < t.length() && digit(t.charAt(p)) && !(p > 0 && letter(t.charAt(p - 1)));
        }

        boolean may(String w) {
            if (!peekWord().equals(w)) return false;
            p += w.length();
            return true;
        }

        boolean may(char c) {
            if (!peek(c)) return false;
            p++;
            return true;
        }

        void must(String w) {
            if (!may(w)) throw bad();
        }

        void must(char c) {
            if (!may(c)) throw bad();
        }

        int number() {
            if (!peekDigit()) throw bad();
            int q = p;
            while (q < t.length() && digit(t.charAt(q))) {
                if (q - p == 4) throw new Fault(1, q);
                q++;
            }
            int v = Integer.parseInt(t.substring(p, q));
            p = q;
            return v;
        }

        int number(int low, int high) {
            blanks();
            int at = p;
            int v = number();
            if (v < low || v > high) throw new Fault(2, at);
            return v;
        }

        void finish() {
            if (more()) throw bad();
        }
    }

    private static boolean groupNext(Cutter c) {
        if (c.peek('(')) return true;
        String w = c.peekWord();
        return w.matches("[durt]{1,12}");
    }

    // Longer than 60 BARS is told as 61 of them, to keep it small.
    private static String part(Cutter c, int open) {
        if (!groupNext(c)) throw c.bad();
        String all = "";
        while (groupNext(c)) {
            int at = c.p;
            String one;
            if (c.peek('(')) {
                if (open == 5) throw new Fault(4, c.p);
                c.p++;
                String inner = part(c, open + 1);
                c.must(')');
                c.must("times");
                one = inner.repeat(c.number(2, 9));
            } else {
                one = c.peekWord();
                c.p += one.length();
            }
            all += one;
            if (open == 0 && all.length() > 60) throw new Fault(5, at);
            if (all.length() > 61) all = all.substring(0, 61);
        }
        return all;
    }

    private static String name(Cutter c, Work w) {
        c.blanks();
        String s = c.peekWord();
        if (s.isEmpty() || OWN.contains(s)) throw c.bad();
        if (s.length() > 6) throw new Fault(1, c.p + 6);
        for (List<Thing> kind : List.of(w.desks, w.mills, w.boats)) {
            for (Thing one : kind) if (one.name.equals(s)) throw new Fault(3, c.p);
        }
        c.p += s.length();
        return s;
    }

    private static void many(Cutter c, int at, List<Thing> kind, int most) {
        if (kind.size() == most) throw new Fault(5, at);
    }

    private static void thing(Cutter c, Work w, List<Thing> kind, boolean named, String verb, int most) {
        Thing one = new Thing();
        if (named) one.name = name(c, w);
        c.must("at");
        one.cell = c.number(0, w.cells - 1);
        c.must(verb);
        one.amount = c.number(1, most);
        kind.add(one);
    }

    private static void statement(Cutter c, Work w) {
        c.blanks();
        int at = c.p;
        if (w.statements == 70) throw new Fault(5, at);
        if (w.statements == 0) {
            c.must("river");
            w.cells = c.number(2, 12);
            w.bed = new int[w.cells];
            w.water = new int[w.cells];
            w.sluice = new boolean[w.cells];
        } else if (c.may("bed")) {
            int v = c.number(0, 9);
            c.must("at");
            w.bed[c.number(0, w.cells - 1)] = v;
        } else if (c.may("water")) {
            int v = c.number(0, 99);
            c.must("at");
            w.water[c.number(0, w.cells - 1)] = v;
        } else if (c.may("desk")) {
            many(c, at, w.desks, 8);
            Thing one = new Thing();
            one.name = name(c, w);
            c.must("arms");
            one.amount = c.number(1, 9);
            c.must("plays");
            String p = part(c, 0);
            w.desks.add(one);
            w.parts.add(p);
        } else if (c.may("pit")) {
            w.pit = c.number(0, w.cells - 1);
        } else if (c.may("sluice")) {
            c.blanks();
            int place = c.p;
            int cell = c.number(0, w.cells - 2);
            if (w.sluice[cell]) throw new Fault(2, place);
            w.sluice[cell] = true;
        } else if (c.may("mill")) {
            many(c, at, w.mills, 4);
            thing(c, w, w.mills, true, "needs", 99);
        } else if (c.may("boat")) {
            many(c, at, w.boats, 4);
            thing(c, w, w.boats, true, "draft", 99);
        } else if (c.may("claque")) {
            many(c, at, w.claques, 4);
            thing(c, w, w.claques, false, "drinks", 9);
        } else if (c.may("bank")) {
            w.bank = c.number(1, 99);
        } else {
            throw c.bad();
        }
        c.must(';');
        w.statements++;
    }

    private boolean faulty(Runnable reading) {
        faultKind = 0;
        faultPlace = -1;
        try {
            reading.run();
            return false;
        } catch (Fault f) {
            faultKind = f.kind;
            faultPlace = f.place;
            return true;
        }
    }

    int opera() {
        Cutter c = new Cutter(takeTape());
        Work w = new Work();
        if (faulty(() -> {
            do statement(c, w); while (c.more());
        })) return -1;
        work = w;
        wetTold = null;
        undoable.clear();
        return w.statements;
    }

    int fault(int what) {
        return what == 0 ? faultKind : what == 1 ? faultPlace : -1;
    }

    // ---- what is told

    int has(int what) {
        int sluices = 0;
        for (boolean s : work.sluice) if (s) sluices++;
        int longest = 0;
        for (String p : work.parts) longest = Math.max(longest, p.length());
        int[] all = {work.cells, work.desks.size(), sluices, work.mills.size(), work.boats.size(), work.claques.size(),
            work.pit, work.bank, longest, undoable.size()};
        return what >= 0 && what < all.length ? all[what] : -1;
    }

    int letter(int kind, int which, int k) {
        if (kind < 0 || kind > 2) return -1;
        List<Thing> things = kind == 0 ? work.desks : kind == 1 ? work.mills : work.boats;
        if (which < 0 || which >= things.size() || k < 0 || k > 5) return -1;
        String n = things.get(which).name;
        return k < n.length() ? n.charAt(k) - 96 : 0;
    }

    private int act(int desk, int bar) {
        String p = work.parts.get(desk);
        return bar <= p.length() ? "durt".indexOf(p.charAt(bar - 1)) : 2;
    }

    private boolean noDesk(int d) {
        return d < 0 || d >= work.desks.size();
    }

    private static boolean noBar(int b) {
        return b < 0 || b > 60;
    }

    private boolean noCell(int c) {
        return c < 0 || c >= work.cells;
    }

    private boolean noBoat(int b) {
        return b < 0 || b >= work.boats.size();
    }

    int desk(int d, int bar) {
        if (noDesk(d)) return -1;
        if (bar == -1) return work.parts.get(d).length();
        if (bar == 0) return work.desks.get(d).amount;
        return noBar(bar) ? -1 : act(d, bar);
    }

    // ---- the river

    private State start() {
        State s = new State();
        s.water = work.water.clone();
        s.boats = new int[work.boats.size()];
        for (int i = 0; i < s.boats.length; i++) s.boats[i] = work.boats.get(i).cell;
        return s;
    }

    private State after(State s, int bar, IntBinaryOperator acts) {
        State n = new State();
        int[] w = s.water.clone();
        n.water = w;
        n.boats = s.boats.clone();
        int arms = 0;
        for (int d = 0; d < work.desks.size(); d++) {
            int a = acts.applyAsInt(d, bar);
            if (a == 0) arms += work.desks.get(d).amount;
            if (a == 3) n.trill = true;
        }
        w[work.pit] += arms;
        for (int c = 0; c + 1 < w.length; c++) {
            if (n.trill && work.sluice[c]) continue;
            int over = work.bed[c] + w[c] - (work.bed[c + 1] + w[c + 1]);
            if (over <= 0) continue;
            int go = Math.min(w[c], over / 2);
            w[c] -= go;
            w[c + 1] += go;
        }
        int ran = w[w.length - 1] / 2;
        w[w.length - 1] -= ran;
        int drunk = 0;
        for (Thing q : work.claques) {
            int sip = Math.min(q.amount, w[q.cell]);
            w[q.cell] -= sip;
            drunk += sip;
        }
        int spilt = 0;
        for (int c = 0; c < w.length; c++) {
            if (w[c] > work.bank) {
                spilt += w[c] - work.bank;
                w[c] = work.bank;
            }
        }
        for (int i = 0; i < n.boats.length; i++) {
            int c = n.boats[i];
            int draft = work.boats.get(i).amount;
            if (w[c] < draft || c == w.length - 1 || w[c + 1] < draft || n.trill && work.sluice[c]) continue;
            n.boats[i]++;
        }
        n.came = s.came + arms;
        n.out = s.out + ran;
        n.drunk = s.drunk + drunk;
        n.spilt = s.spilt + spilt;
        return n;
    }

    private List<State> states(int upTo, IntBinaryOperator acts) {
        List<State> all = new ArrayList<>();
        all.add(start());
        for (int b = 1; b <= upTo; b++) all.add(after(all.get(b - 1), b, acts));
        return all;
    }

    private State state(int bar) {
        return states(bar, this::act).get(bar);
    }

    int deep(int c, int bar) {
        return noCell(c) || noBar(bar) ? -1 : state(bar).water[c];
    }

    int cell(int c, int what) {
        if (noCell(c) || what < 0 || what > 2) return -1;
        return what == 0 ? work.bed[c] : what == 1 ? work.sluice[c] ? 1 : 0 : work.water[c];
    }

    int sums(int bar, int what) {
        if (work.cells == 0 || noBar(bar) || what < 0 || what > 5) return -1;
        List<State> all = states(bar, this::act);
        State s = all.get(bar);
        int trills = 0;
        for (State one : all) if (one.trill) trills++;
        return new int[] {s.came, s.out, s.drunk, s.spilt, Arrays.stream(s.water).sum(), trills}[what];
    }

    int led(int d, int bar) {
        if (noDesk(d) || noBar(bar)) return -1;
        int inches = 0;
        for (int b = 1; b <= bar; b++) if (act(d, b) == 0) inches += work.desks.get(d).amount;
        return inches;
    }

    private boolean aground(State s, int boat) {
        return s.water[s.boats[boat]] < work.boats.get(boat).amount;
    }

    int boat(int boat, int bar, boolean aground) {
        if (noBoat(boat) || noBar(bar)) return -1;
        State s = state(bar);
        return aground ? aground(s, boat) ? 1 : 0 : s.boats[boat];
    }

    int first(int boat, int what) {
        if (noBoat(boat) || what < 0 || what > 2) return -1;
        if (what == 2) return work.boats.get(boat).amount;
        List<State> all = states(60, this::act);
        for (int b = 0; b <= 60; b++) {
            State s = all.get(b);
            if (what == 0 ? aground(s, boat) : s.boats[boat] == work.cells - 1) return b;
        }
        return -1;
    }

    int turning(int mill, int bar) {
        if (mill < 0 || mill >= work.mills.size() || noBar(bar)) return -1;
        Thing m = work.mills.get(mill);
        int n = 0;
        for (State s : states(bar, this::act)) if (s.water[m.cell] >= m.amount) n++;
        return n;
    }

    // ---- acts

    private void keep() {
        undoable.addLast(new ArrayList<>(work.parts));
        if (undoable.size() > 20) undoable.removeFirst();
    }

    int mark(int d, int from, int to, boolean down) {
        if (noDesk(d) || from < 1 || from > 60 || to < from || to > 60) return -1;
        keep();
        StringBuilder p = new StringBuilder(work.parts.get(d));
        while (p.length() < to) p.append('r');
        int n = 0;
        char want = down ? 'd' : 'r';
        for (int b = from; b <= to; b++) {
            if (p.charAt(b - 1) != want) n++;
            p.setCharAt(b - 1, want);
        }
        work.parts.set(d, p.toString());
        return n;
    }

    int teach(int d) {
        Cutter c = new Cutter(takeTape());
        if (noDesk(d)) return -1;
        String[] p = new String[1];
        if (faulty(() -> {
            p[0] = part(c, 0);
            c.finish();
        })) return -1;
        keep();
        work.parts.set(d, p[0]);
        return p[0].length();
    }

    boolean undo() {
        if (undoable.isEmpty()) return false;
        List<String> back = undoable.removeLast();
        for (int d = 0; d < back.size(); d++) work.parts.set(d, back.get(d));
        return true;
    }

    // ---- who must rest, who came early

    private int fewest(int boat, int bar, int what, boolean stop) {
        if (noBoat(boat) || noBar(bar) || what < 0 || what > 1) return -1;
        int best = -1;
        for (int bits = 0; bits < 1 << work.desks.size(); bits++) {
            int chosen = bits;
            State s = states(bar, (d, b) -> (chosen >> d & 1) == (stop ? 1 : 0) ? 2 : act(d, b)).get(bar);
            boolean does = stop ? aground(s, boat) : s.boats[boat] == work.cells - 1;
            if (does && (best < 0 || Integer.bitCount(bits) < Integer.bitCount(best))) best = bits;
        }
        return best < 0 ? -1 : what == 0 ? Integer.bitCount(best) : best;
    }

    int stop(int boat, int bar, int what) {
        return fewest(boat, bar, what, true);
    }

    int bring(int boat, int bar, int what) {
        return fewest(boat, bar, what, false);
    }

    boolean wet() {
        String t = takeTape();
        if (work.cells == 0 || t.length() != work.cells) return false;
        wetTold = t;
        return true;
    }

    int early(int bar, int k) {
        if (wetTold == null || bar < 1 || bar > 60 || k < -1) return -1;
        List<Integer> found = new ArrayList<>();
        List<String> told = new ArrayList<>(work.parts);
        for (int d = 0; d < told.size(); d++) {
            String p = told.get(d);
            for (int out = 1; out <= bar && out <= p.length(); out++) {
                work.parts.set(d, p.substring(0, out - 1) + p.substring(out));
                StringBuilder there = new StringBuilder();
                for (int w : state(bar).water) there.append((char) w);
                if (wetTold.contentEquals(there)) found.add(100 * d + out);
                work.parts.set(d, p);
            }
        }
        return k == -1 ? found.size() : k < found.size() ? found.get(k) : -1;
    }

    int encore(int bar, int n) {
        if (work.cells == 0 || bar < 0 || n < 1 || n > 30 || (long) bar + n > 60) return -1;
        List<State> all = states(bar + n, (d, b) -> act(d, b > bar ? b - bar : b));
        return all.get(bar + n).spilt - all.get(bar).spilt;
    }

    int trout(int c, int n, int bar) {
        if (noCell(c) || n < 1 || n > 50 || noBar(bar)) return -1;
        List<State> all = states(bar, this::act);
        int left = 0;
        trouts:
        for (int i = 0; i < n; i++) {
            int at = c;
            for (int b = 1; b <= bar; b++) {
                int[] w = all.get(b).water;
                if (w[at] == 0) continue trouts;
                x = (1103515245L * x + 12345) % (1L << 31);
                int draw = (int) (x / 64 % 3);
                if (draw == 1 && at > 0 && w[at - 1] > 0) at--;
                else if (draw == 2 && at + 1 < w.length && w[at + 1] > 0) at++;
            }
            left++;
        }
        return left;
    }

    boolean seed(int s) {
        if (s < 0) return false;
        x = s;
        return true;
    }

    // ---- questions

    private List<State> asked;

    private static int within(long v) {
        return (int) (v > 1000000 ? 1000000 : v < -1000000 ? -1000000 : v);
    }

    private static void open(Cutter c, int open) {
        c.blanks();
        if (open == 6) throw new Fault(4, c.p);
    }

    private IntUnaryOperator test(Cutter c, int open) {
        IntUnaryOperator left = both(c, open);
        while (c.may("or")) {
            IntUnaryOperator a = left;
            IntUnaryOperator b = both(c, open);
            left = bar -> a.applyAsInt(bar) | b.applyAsInt(bar);
        }
        return left;
    }

    private IntUnaryOperator both(Cutter c, int open) {
        IntUnaryOperator left = factOf(c, open);
        while (c.may("and")) {
            IntUnaryOperator a = left;
            IntUnaryOperator b = factOf(c, open);
            left = bar -> a.applyAsInt(bar) & b.applyAsInt(bar);
        }
        return left;
    }

    private IntUnaryOperator factOf(Cutter c, int open) {
        if (c.peekWord().equals("not")) {
            open(c, open);
            c.must("not");
            IntUnaryOperator a = factOf(c, open + 1);
            return bar -> 1 - a.applyAsInt(bar);
        }
        if (c.peek('[')) {
            open(c, open);
            c.must('[');
            IntUnaryOperator a = test(c, open + 1);
            c.must(']');
            return a;
        }
        if (c.may("all")) return bar -> 1;
        IntUnaryOperator a = sumOf(c, open);
        if (!c.peek('<') && !c.peek('>') && !c.peek('=')) throw c.bad();
        char sign = c.t.charAt(c.p++);
        IntUnaryOperator b = sumOf(c, open);
        return bar -> {
            int by = Integer.compare(a.applyAsInt(bar), b.applyAsInt(bar));
            return (sign == '<' ? by < 0 : sign == '>' ? by > 0 : by == 0) ? 1 : 0;
        };
    }

    private IntUnaryOperator sumOf(Cutter c, int open) {
        IntUnaryOperator left = product(c, open);
        while (c.peek('+') || c.peek('-')) {
            int sign = c.t.charAt(c.p++) == '+' ? 1 : -1;
            IntUnaryOperator a = left;
            IntUnaryOperator b = product(c, open);
            left = bar -> within(a.applyAsInt(bar) + (long) sign * b.applyAsInt(bar));
        }
        return left;
    }

    private IntUnaryOperator product(Cutter c, int open) {
        IntUnaryOperator left = piece(c, open);
        while (c.peek('*') || c.peek('/')) {
            boolean times = c.t.charAt(c.p++) == '*';
            IntUnaryOperator a = left;
            IntUnaryOperator b = piece(c, open);
            left = bar -> {
                long u = a.applyAsInt(bar);
                long v = b.applyAsInt(bar);
                if (times) return within(u * v);
                return v == 0 ? 0 : (int) Math.floor((double) u / v);
            };
        }
        return left;
    }

    private IntUnaryOperator piece(Cutter c, int open) {
        if (c.peekDigit()) {
            int n = c.number();
            return bar -> n;
        }
        if (c.peek('(')) {
            open(c, open);
            c.must('(');
            IntUnaryOperator a = sumOf(c, open + 1);
            c.must(')');
            return a;
        }
        String w = c.peekWord();
        if (w.equals("deep") || w.equals("boat")) open(c, open);
        if (!List.of("bar", "came", "out", "drunk", "spilt", "trills", "deep", "boat", "min", "max").contains(w)) throw c.bad();
        c.p += w.length();
        switch (w) {
            case "bar": return bar -> bar;
            case "came": return bar -> asked.get(bar).came;
            case "out": return bar -> asked.get(bar).out;
            case "drunk": return bar -> asked.get(bar).drunk;
            case "spilt": return bar -> asked.get(bar).spilt;
            case "trills": return bar -> asked.get(bar).trill ? 1 : 0;
            case "deep": {
                IntUnaryOperator a = piece(c, open + 1);
                return bar -> noCell(a.applyAsInt(bar)) ? 0 : asked.get(bar).water[a.applyAsInt(bar)];
            }
            case "boat": {
                IntUnaryOperator a = piece(c, open + 1);
                return bar -> noBoat(a.applyAsInt(bar)) ? 0 : asked.get(bar).boats[a.applyAsInt(bar)];
            }
            default: break;
        }
        if (!c.peek('(')) throw c.bad();
        open(c, open);
        c.must('(');
        IntUnaryOperator a = sumOf(c, open + 1);
        c.must(',');
        IntUnaryOperator b = sumOf(c, open + 1);
        c.must(')');
        return bar -> w.equals("min") ? Math.min(a.applyAsInt(bar), b.applyAsInt(bar))
            : Math.max(a.applyAsInt(bar), b.applyAsInt(bar));
    }

    long ask() {
        Cutter c = new Cutter(takeTape());
        if (work.cells == 0) return -1000000000000000L;
        asked = states(60, this::act);
        String[] how = new String[1];
        IntUnaryOperator[] what = new IntUnaryOperator[1];
        if (faulty(() -> {
            how[0] = c.peekWord();
            if (List.of("first", "last", "often").contains(how[0])) {
                c.p += how[0].length();
                what[0] = test(c, 0);
            } else if (List.of("total", "most", "least").contains(how[0])) {
                c.p += how[0].length();
                what[0] = sumOf(c, 0);
            } else {
                throw c.bad();
            }
            c.finish();
        })) return -1000000000000000L;
        int[] all = new int[61];
        Arrays.setAll(all, what[0]::applyAsInt);
        switch (how[0]) {
            case "first":
                for (int b = 0; b <= 60; b++) if (all[b] == 1) return b;
                return -1;
            case "last":
                for (int b = 60; b >= 0; b--) if (all[b] == 1) return b;
                return -1;
            case "often":
            case "total": return Arrays.stream(all).asLongStream().sum();
            case "most": return Arrays.stream(all).max().getAsInt();
            default: return Arrays.stream(all).min().getAsInt();
        }
    }

    // ---- images

    private static char check(String ahead) {
        int c = 149;
        for (char one : ahead.toCharArray()) c = (3 * c + one) % 251;
        return (char) c;
    }

    int image() {
        StringBuilder b = new StringBuilder();
        for (String p : work.parts) {
            b.append((char) p.length());
            for (char a : p.toCharArray()) b.append((char) "durt".indexOf(a));
        }
        image = b.append(check(b.toString())).toString();
        return image.length();
    }

    int octet(int k) {
        return k >= 0 && k < image.length() ? image.charAt(k) : -1;
    }

    boolean on() {
        String t = takeTape();
        if (work.cells == 0) return false;
        List<String> parts = new ArrayList<>();
        int k = 0;
        for (int d = 0; d < work.desks.size(); d++) {
            if (k >= t.length()) return false;
            int n = t.charAt(k++);
            if (n > 60 || k + n > t.length()) return false;
            StringBuilder p = new StringBuilder();
            for (int i = 0; i < n; i++) {
                int a = t.charAt(k++);
                if (a > 3) return false;
                p.append("durt".charAt(a));
            }
            parts.add(p.toString());
        }
        if (k + 1 != t.length() || t.charAt(k) != check(t.substring(0, k))) return false;
        work.parts.clear();
        work.parts.addAll(parts);
        undoable.clear();
        return true;
    }
}
