/** What the tests by hand share: texts that go on the tape, answers compared with those that are due, the wrong ones counted. */
abstract class Told {
    static final long NOTHING = -1000000000000000L;
    static final int LEAST = Integer.MIN_VALUE;
    static final int GREATEST = Integer.MAX_VALUE;
    static int wrong = 0;
    static int asked = 0;
    static String now = "";

    static void close() {
        System.out.println(asked + " answers asked, " + wrong + " not as due");
        if (wrong != 0) System.exit(1);
    }

    static void due(String what, long got, long want) {
        asked++;
        if (got != want) {
            wrong++;
            System.out.println(now + ": " + what + " answered " + got + ", due is " + want);
        }
    }

    static void due(String what, boolean got, boolean want) {
        due(what, got ? 1 : 0, want ? 1 : 0);
    }

    // ---- the tape

    static void tape(SluicePit x, String text) {
        x.end(0);
        for (int k = 0; k < text.length(); k += 20) {
            int[] five = new int[5];
            for (int i = 0; i < 20; i++) {
                int octet = k + i < text.length() ? text.charAt(k + i) : ' ';
                five[i / 4] = five[i / 4] << 8 | octet;
            }
            due("feed", x.feed(five[0], five[1], five[2], five[3], five[4]), k + 20);
        }
        due("end", x.end(text.length()), true);
    }

    static boolean tapeIsEmpty(SluicePit x) {
        return !x.end(1);
    }

    private static String bytes(int... octets) {
        StringBuilder b = new StringBuilder();
        for (int octet : octets) b.append((char) octet);
        return b.toString();
    }

    // ---- texts

    static SluicePit pit(String text) {
        SluicePit x = new SluicePit();
        tape(x, text);
        if (x.opera() < 0) {
            wrong++;
            System.out.println(now + ": FAULT " + x.fault(0) + " at " + x.fault(1) + " of " + text);
        }
        return x;
    }

    static int opera(SluicePit x, String text) {
        tape(x, text);
        return x.opera();
    }

    static void good(String text, int statements) {
        SluicePit x = new SluicePit();
        due("opera of " + text, opera(x, text), statements);
        faults(x, text, 0, -1);
    }

    static void bad(String text, int kind, int place) {
        SluicePit x = new SluicePit();
        due("opera of " + text, opera(x, text), -1);
        faults(x, text, kind, place);
        due("has(0)", x.has(0), 0);
        due("tape", tapeIsEmpty(x), true);
    }

    // The FAULT is at the first byte of what stands behind.
    static void badAt(String ahead, String behind, int kind) {
        bad(ahead + behind, kind, ahead.length());
    }

    static void faults(SluicePit x, String text, int kind, int place) {
        due("fault(0) of " + text, x.fault(0), kind);
        due("fault(1) of " + text, x.fault(1), place);
    }

    static int teach(SluicePit x, int desk, String text) {
        tape(x, text);
        return x.teach(desk);
    }

    static boolean wet(SluicePit x, int... water) {
        tape(x, bytes(water));
        return x.wet();
    }

    static long ask(SluicePit x, String text) {
        tape(x, text);
        return x.ask();
    }

    static void badAsk(String text, int kind, int place) {
        SluicePit x = pit("river 2;");
        due("ask " + text, ask(x, text), NOTHING);
        faults(x, text, kind, place);
        due("tape", tapeIsEmpty(x), true);
    }

    static boolean on(SluicePit x, int... octets) {
        tape(x, bytes(octets));
        return x.on();
    }

    // The last byte of an image with these ahead of it.
    static int check(int... ahead) {
        int c = 149;
        for (int one : ahead) c = (3 * c + one) % 251;
        return c;
    }

    // ---- what is there

    // WATER of the CELLS in a BAR.
    static void deep(SluicePit x, int bar, int... water) {
        for (int c = 0; c < water.length; c++) due("deep(" + c + ", " + bar + ")", x.deep(c, bar), water[c]);
    }

    static void acts(SluicePit x, int desk, String part) {
        due("bars of " + desk, x.desk(desk, -1), part.length());
        for (int b = 1; b <= part.length(); b++) due("desk(" + desk + ", " + b + ")", x.desk(desk, b), "durt".indexOf(part.charAt(b - 1)));
    }

    static void has(SluicePit x, int... counts) {
        for (int what = 0; what < counts.length; what++) due("has(" + what + ")", x.has(what), counts[what]);
    }
}
