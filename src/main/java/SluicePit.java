import java.util.Arrays;

/** An opera's river that is fed by bows, told as a text. See README.md and the document. */
public final class SluicePit {
    public static final int NONE = -1;
    public static final long NOTHING = -1000000000000000L;

    private static final int MOST_BYTES = 1600;
    private static final int MOST_STATEMENTS = 70;
    private static final int MOST_CELLS = 12;
    private static final int MOST_DESKS = 8;
    private static final int MOST_STANDS = 4;
    private static final int MOST_BARS = 60;
    private static final int MOST_ACTS = 20;
    private static final int MOST_ENCORE = 30;
    private static final int MOST_TROUT = 50;
    private static final int NAME_LETTERS = 6;
    private static final int WITHOUT_BANK = 99;

    private static final int DOWN = 0;
    private static final int REST = 2;
    private static final int TRILL = 3;

    private static final int DESK_NAMES = 0;
    private static final int MILL_NAMES = 1;
    private static final int BOAT_NAMES = 2;
    private static final int NAME_KINDS = 3;

    private static final int FAULT_TEXT = 1;
    private static final int FAULT_NUMBER = 2;
    private static final int FAULT_NAME = 3;
    private static final int FAULT_OPEN = 4;
    private static final int FAULT_MANY = 5;

    private static final int CAME = 0;
    private static final int RAN_OUT = 1;
    private static final int DRUNK = 2;
    private static final int SPILT = 3;
    private static final int THERE = 4;
    private static final int TRILLED = 5;
    private static final int MEASURES = 6;

    private static final int IMAGE_BYTES = MOST_DESKS * (MOST_BARS + 1) + 1;

    private final Tape tape;
    private final Reader reader;
    private final PartReader partReader;
    private final OperaReader operaReader;
    private final Question question;
    private final Acts acts;
    private final Run run;
    private final Pool pool;
    // Two rooms: one holds the opera that is played, the next one is read into the other.
    private Opera played;
    private Opera spare;
    private final int[] wetRow;
    private boolean wetTold;
    private long drawn;
    private final int[] imageRow;
    private int imageSize;

    public SluicePit() {
        tape = new Tape();
        reader = new Reader(tape);
        partReader = new PartReader(reader);
        played = new Opera();
        spare = new Opera();
        operaReader = new OperaReader(reader, partReader, spare);
        acts = new Acts();
        run = new Run();
        pool = new Pool();
        question = new Question(reader, run, played);
        wetRow = new int[MOST_CELLS];
        wetTold = false;
        drawn = 1;
        imageRow = new int[IMAGE_BYTES];
        imageSize = 0;
    }

    public int feed(int a, int b, int c, int d, int e) {
        if (tape.size + 20 > MOST_BYTES) {
            return NONE;
        }
        tape.addFour(a);
        tape.addFour(b);
        tape.addFour(c);
        tape.addFour(d);
        tape.addFour(e);
        return tape.size;
    }

    public boolean end(int n) {
        if (n < 0 || n > tape.size) {
            return false;
        }
        tape.size = n;
        return true;
    }

    public int opera() {
        reader.begin();
        boolean good = operaReader.read(spare);
        tape.size = 0;
        if (!good) {
            return NONE;
        }
        Opera before = played;
        played = spare;
        spare = before;
        wetTold = false;
        acts.forget();
        run.playAll(played, pool);
        return played.statements;
    }

    public int fault(int what) {
        if (what == 0) {
            return reader.fault;
        }
        return what == 1 ? reader.faultPlace : NONE;
    }

    public int has(int what) {
        switch (what) {
            case 0: return played.cells;
            case 1: return played.desks;
            case 2: return played.sluices();
            case 3: return played.mills.count;
            case 4: return played.boats.count;
            case 5: return played.claques.count;
            case 6: return played.pit;
            case 7: return played.bank;
            case 8: return played.parts.longest(played.desks);
            case 9: return acts.count;
            default: return NONE;
        }
    }

    public int letter(int kind, int which, int k) {
        if (kind < 0 || kind >= NAME_KINDS || which < 0 || which >= played.named(kind)) {
            return NONE;
        }
        if (k < 0 || k >= NAME_LETTERS) {
            return NONE;
        }
        int octet = cellOf(played.names, nameRow(kind, which), k);
        return octet == 0 ? 0 : octet - 'a' + 1;
    }

    public int desk(int desk, int bar) {
        if (!isDesk(desk) || bar < NONE || bar > MOST_BARS) {
            return NONE;
        }
        if (bar == NONE) {
            return played.parts.size(desk);
        }
        return bar == 0 ? at(played.arms, desk) : played.parts.act(desk, bar);
    }

    // ---- the river

    public int deep(int cell, int bar) {
        return isCell(cell) && isBar(bar) ? run.water(bar, cell) : NONE;
    }

    public int cell(int cell, int what) {
        if (!isCell(cell)) {
            return NONE;
        }
        switch (what) {
            case 0: return at(played.bed, cell);
            case 1: return at(played.sluice, cell);
            case 2: return at(played.water, cell);
            default: return NONE;
        }
    }

    public int sums(int bar, int what) {
        if (played.cells == 0 || !isBar(bar) || what < 0 || what >= MEASURES) {
            return NONE;
        }
        return run.measure(bar, what);
    }

    public int led(int desk, int bar) {
        if (!isDesk(desk) || !isBar(bar)) {
            return NONE;
        }
        int downs = 0;
        for (int b = 1; b <= bar; b++) {
            if (played.parts.act(desk, b) == DOWN) {
                downs++;
            }
        }
        return downs * at(played.arms, desk);
    }

    public int boat(int boat, int bar, boolean aground) {
        if (!played.boats.holds(boat) || !isBar(bar)) {
            return NONE;
        }
        if (aground) {
            return isAground(boat, bar) ? 1 : 0;
        }
        return run.boatCell(bar, boat);
    }

    public int first(int boat, int what) {
        if (!played.boats.holds(boat) || what < 0 || what > 2) {
            return NONE;
        }
        if (what == 2) {
            return played.boats.amountOf(boat);
        }
        for (int b = 0; b <= MOST_BARS; b++) {
            if (what == 0 ? isAground(boat, b) : run.boatCell(b, boat) == played.cells - 1) {
                return b;
            }
        }
        return NONE;
    }

    public int turning(int mill, int bar) {
        if (!played.mills.holds(mill) || !isBar(bar)) {
            return NONE;
        }
        int cell = played.mills.cellOfOne(mill);
        int needs = played.mills.amountOf(mill);
        int turns = 0;
        for (int b = 0; b <= bar; b++) {
            if (run.water(b, cell) >= needs) {
                turns++;
            }
        }
        return turns;
    }

    // ---- acts

    public int mark(int desk, int from, int to, boolean down) {
        if (!isDesk(desk) || from < 1 || to > MOST_BARS || from > to) {
            return NONE;
        }
        acts.keep(played.parts, desk);
        int otherwise = played.parts.setActs(desk, from, to, down ? DOWN : REST);
        run.playAll(played, pool);
        return otherwise;
    }

    public int teach(int desk) {
        if (!isDesk(desk)) {
            tape.size = 0;
            return NONE;
        }
        reader.begin();
        partReader.count = 0;
        boolean good = partReader.part(0) && reader.ended();
        tape.size = 0;
        if (!good) {
            return NONE;
        }
        acts.keep(played.parts, desk);
        played.parts.setPart(desk, partReader.bars, partReader.count);
        run.playAll(played, pool);
        return partReader.count;
    }

    public boolean undo() {
        if (!acts.takeBack(played.parts)) {
            return false;
        }
        run.playAll(played, pool);
        return true;
    }

    // ---- who must rest, who came early

    public int stop(int boat, int bar, int what) {
        return fewest(boat, bar, what, true);
    }

    public int bring(int boat, int bar, int what) {
        return fewest(boat, bar, what, false);
    }

    public boolean wet() {
        boolean good = played.cells > 0 && tape.size == played.cells;
        if (good) {
            for (int c = 0; c < wetRow.length; c++) {
                wetRow[c] = tape.read(c);
            }
            wetTold = true;
        }
        tape.size = 0;
        return good;
    }

    public int early(int bar, int k) {
        if (!wetTold || bar < 1 || bar > MOST_BARS || k < NONE) {
            return NONE;
        }
        int found = 0;
        for (int d = 0; d < played.desks; d++) {
            int most = Math.min(bar, played.parts.size(d));
            for (int left = 1; left <= most; left++) {
                if (isWetWithout(d, left, bar)) {
                    if (found == k) {
                        return 100 * d + left;
                    }
                    found++;
                }
            }
        }
        return k == NONE ? found : NONE;
    }

    public int encore(int bar, int n) {
        if (played.cells == 0 || bar < 0 || bar > MOST_BARS || n < 1 || n > MOST_ENCORE) {
            return NONE;
        }
        if (bar + n > MOST_BARS) {
            return NONE;
        }
        pool.begin(run, bar);
        pool.behind = bar;
        int before = pool.spilt;
        for (int b = bar + 1; b <= bar + n; b++) {
            pool.play(played, b);
        }
        return pool.spilt - before;
    }

    public int trout(int cell, int n, int bar) {
        if (!isCell(cell) || n < 1 || n > MOST_TROUT || !isBar(bar)) {
            return NONE;
        }
        int left = 0;
        for (int i = 0; i < n; i++) {
            if (swims(cell, bar)) {
                left++;
            }
        }
        return left;
    }

    public boolean seed(int seed) {
        if (seed < 0) {
            return false;
        }
        drawn = seed;
        return true;
    }

    public long ask() {
        if (played.cells == 0) {
            tape.size = 0;
            return NOTHING;
        }
        reader.begin();
        long answer = question.answer(played);
        tape.size = 0;
        return answer;
    }

    // ---- images

    public int image() {
        int size = 0;
        for (int d = 0; d < played.desks; d++) {
            int bars = played.parts.size(d);
            put(imageRow, size, bars);
            size++;
            for (int b = 1; b <= bars; b++) {
                put(imageRow, size, played.parts.act(d, b));
                size++;
            }
        }
        put(imageRow, size, check(imageRow, size));
        imageSize = size + 1;
        return imageSize;
    }

    public int octet(int k) {
        return k >= 0 && k < imageSize ? at(imageRow, k) : NONE;
    }

    public boolean on() {
        boolean good = played.cells > 0 && isImage();
        if (good) {
            takeImage();
            acts.forget();
            run.playAll(played, pool);
        }
        tape.size = 0;
        return good;
    }

    // ---- helpers of the face

    private boolean isCell(int cell) {
        return cell >= 0 && cell < played.cells;
    }

    private boolean isDesk(int desk) {
        return desk >= 0 && desk < played.desks;
    }

    private static boolean isBar(int bar) {
        return bar >= 0 && bar <= MOST_BARS;
    }

    private boolean isAground(int boat, int bar) {
        return run.water(bar, run.boatCell(bar, boat)) < played.boats.amountOf(boat);
    }

    // Bits are tried by their number first and their worth then, so the first that do are the answer.
    private int fewest(int boat, int bar, int what, boolean aground) {
        if (!played.boats.holds(boat) || !isBar(bar) || what < 0 || what > 1) {
            return NONE;
        }
        int all = (1 << played.desks) - 1;
        for (int n = 0; n <= played.desks; n++) {
            for (int bits = 0; bits <= all; bits++) {
                if (Integer.bitCount(bits) != n) {
                    continue;
                }
                playSilent(aground ? bits : all - bits, bar);
                boolean does = aground ? pool.isAground(played, boat) : pool.isLast(played, boat);
                if (does) {
                    return what == 0 ? n : bits;
                }
            }
        }
        return NONE;
    }

    private void playSilent(int silent, int bar) {
        pool.begin(run, 0);
        pool.silent = silent;
        for (int b = 1; b <= bar; b++) {
            pool.play(played, b);
        }
    }

    // What lies ahead of the BAR left out is as it was, so the run's BAR ahead of it is taken up.
    private boolean isWetWithout(int desk, int left, int bar) {
        pool.begin(run, left - 1);
        pool.hasty = desk;
        pool.left = left;
        for (int b = left; b <= bar; b++) {
            pool.play(played, b);
        }
        for (int c = 0; c < played.cells; c++) {
            if (at(pool.water, c) != at(wetRow, c)) {
                return false;
            }
        }
        return true;
    }

    private boolean swims(int cell, int bar) {
        int here = cell;
        for (int b = 1; b <= bar; b++) {
            if (run.water(b, here) <= 0) {
                return false;
            }
            int way = draw(3);
            int next = way == 1 ? here - 1 : way == 2 ? here + 1 : here;
            if (isCell(next) && run.water(b, next) > 0) {
                here = next;
            }
        }
        return true;
    }

    private int draw(int m) {
        drawn = (1103515245L * drawn + 12345L) & 0x7fffffffL;
        return m > 0 ? (int) ((drawn / 64) % m) : 0;
    }

    private boolean isImage() {
        int k = 0;
        for (int d = 0; d < played.desks; d++) {
            int bars = tape.read(k);
            if (bars < 0 || bars > MOST_BARS) {
                return false;
            }
            for (int b = 1; b <= bars; b++) {
                int act = tape.read(k + b);
                if (act < DOWN || act > TRILL) {
                    return false;
                }
            }
            k += bars + 1;
        }
        return tape.size == k + 1 && tape.read(k) == check(tape.bytes, k);
    }

    private void takeImage() {
        int k = 0;
        for (int d = 0; d < played.desks; d++) {
            int bars = tape.read(k);
            for (int b = 1; b <= bars; b++) {
                played.parts.setAct(d, b, tape.read(k + b));
            }
            played.parts.setSize(d, bars);
            k += bars + 1;
        }
    }

    private static int check(int[] bytes, int size) {
        int c = 149;
        for (int k = 0; k < size && k < bytes.length; k++) {
            c = (3 * c + bytes[k]) % 251;
        }
        return c;
    }

    // ---- rows, with each index looked at

    private static int at(int[] row, int k) {
        return k >= 0 && k < row.length ? row[k] : 0;
    }

    private static void put(int[] row, int k, int value) {
        if (k >= 0 && k < row.length) {
            row[k] = value;
        }
    }

    private static int cellOf(int[][] table, int i, int k) {
        if (i < 0 || i >= table.length) {
            return 0;
        }
        int[] row = table[i];
        return row != null && k >= 0 && k < row.length ? row[k] : 0;
    }

    private static void putCell(int[][] table, int i, int k, int value) {
        if (i < 0 || i >= table.length) {
            return;
        }
        int[] row = table[i];
        if (row != null && k >= 0 && k < row.length) {
            row[k] = value;
        }
    }

    private static int nameRow(int kind, int which) {
        return kind * MOST_DESKS + which;
    }

    /** The tape: bytes 0 .. 255 that wait to be read. */
    private static final class Tape {
        final int[] bytes;
        int size;

        Tape() {
            bytes = new int[MOST_BYTES];
            size = 0;
        }

        void addFour(int number) {
            for (int shift = 24; shift >= 0; shift -= 8) {
                put(bytes, size, (number >>> shift) & 255);
                size++;
            }
        }

        int read(int k) {
            return k >= 0 && k < size && k < bytes.length ? bytes[k] : NONE;
        }
    }

    /** The tape as words, numbers and signs, one after the other; it keeps the FAULT. */
    private static final class Reader {
        private static final int END = 0;
        private static final int WORD = 1;
        private static final int NUMBER = 2;
        private static final int SIGN = 3;
        // A word or number that touches the one ahead of it: nothing that may stand anywhere.
        private static final int TOUCHING = 4;
        private static final int MOST_DIGITS = 4;
        // No word that may stand anywhere is longer.
        private static final int WORD_LETTERS = 12;

        private final Tape tape;
        private int sort;
        // The letters of the present word, 0 behind them.
        final int[] word;
        int place;
        private int behind;
        int fault;
        int faultPlace;

        Reader(Tape tape) {
            this.tape = tape;
            word = new int[WORD_LETTERS];
            sort = END;
            place = 0;
            behind = 0;
            fault = 0;
            faultPlace = NONE;
        }

        void begin() {
            behind = 0;
            fault = 0;
            faultPlace = NONE;
            step();
        }

        void step() {
            int k = behind;
            while (k < tape.size && isBlank(tape.read(k))) {
                k++;
            }
            place = k;
            boolean digits = isDigit(tape.read(k));
            boolean letters = isLetter(tape.read(k));
            if (k >= tape.size) {
                sort = END;
            } else if (letters) {
                sort = isDigit(tape.read(k - 1)) ? TOUCHING : WORD;
            } else if (digits) {
                sort = isLetter(tape.read(k - 1)) ? TOUCHING : NUMBER;
            } else {
                sort = SIGN;
                k++;
            }
            while (k < tape.size && (letters ? isLetter(tape.read(k)) : digits && isDigit(tape.read(k)))) {
                k++;
            }
            behind = k;
            for (int i = 0; i < WORD_LETTERS; i++) {
                put(word, i, letters && place + i < behind ? tape.read(place + i) : 0);
            }
        }

        private static boolean isBlank(int octet) {
            return octet == 10 || octet == 32;
        }

        private static boolean isDigit(int octet) {
            return octet >= '0' && octet <= '9';
        }

        private static boolean isLetter(int octet) {
            return octet >= 'a' && octet <= 'z';
        }

        boolean isEnd() {
            return sort == END;
        }

        boolean isSomeWord() {
            return sort == WORD;
        }

        boolean isSomeNumber() {
            return sort == NUMBER;
        }

        boolean isSign(char sign) {
            return sort == SIGN && tape.read(place) == sign;
        }

        int length() {
            return behind - place;
        }

        boolean isWord(String asked) {
            return isPiece(asked, 0, asked.length());
        }

        private boolean isPiece(String words, int start, int stop) {
            if (sort != WORD || stop - start != behind - place) {
                return false;
            }
            for (int k = start; k < stop && k < words.length(); k++) {
                if (at(word, k - start) != words.charAt(k)) {
                    return false;
                }
            }
            return true;
        }

        // The number of the word in a text of words, each with a blank behind it.
        int wordAmong(String words) {
            int number = 0;
            int start = 0;
            for (int k = 0; k < words.length(); k++) {
                if (words.charAt(k) == ' ') {
                    if (isPiece(words, start, k)) {
                        return number;
                    }
                    number++;
                    start = k + 1;
                }
            }
            return NONE;
        }

        boolean fail(int kind, int where) {
            fault = kind;
            faultPlace = where;
            return false;
        }

        boolean refuse() {
            return fail(FAULT_TEXT, place);
        }

        boolean ended() {
            return sort == END || refuse();
        }

        boolean takeSign(char sign) {
            if (!isSign(sign)) {
                return refuse();
            }
            step();
            return true;
        }

        boolean takeWord(String asked) {
            if (!isPiece(asked, 0, asked.length())) {
                return refuse();
            }
            step();
            return true;
        }

        int takeNumber(int least, int most) {
            if (sort != NUMBER) {
                refuse();
                return NONE;
            }
            if (behind - place > MOST_DIGITS) {
                fail(FAULT_TEXT, place + MOST_DIGITS);
                return NONE;
            }
            int value = 0;
            for (int k = place; k < behind; k++) {
                value = 10 * value + tape.read(k) - '0';
            }
            if (value < least || value > most) {
                fail(FAULT_NUMBER, place);
                return NONE;
            }
            step();
            return value;
        }
    }

    /** What stands at CELLS, each with an amount: MILLS, BOATS or CLAQUES. */
    private static final class Stand {
        private final int[] cells;
        private final int[] amounts;
        int count;

        Stand() {
            cells = new int[MOST_STANDS];
            amounts = new int[MOST_STANDS];
            count = 0;
        }

        boolean holds(int which) {
            return which >= 0 && which < count;
        }

        boolean isFull() {
            return count >= MOST_STANDS;
        }

        int cellOfOne(int which) {
            return at(cells, which);
        }

        int amountOf(int which) {
            return at(amounts, which);
        }

        void add(int cell, int amount) {
            put(cells, count, cell);
            put(amounts, count, amount);
            count++;
        }
    }

    /** The PARTS of all DESKS. */
    private static final class Parts {
        private final int[][] bars;
        private final int[] sizes;

        Parts() {
            bars = new int[MOST_DESKS][MOST_BARS];
            sizes = new int[MOST_DESKS];
        }

        int size(int desk) {
            return at(sizes, desk);
        }

        void setSize(int desk, int size) {
            put(sizes, desk, size);
        }

        int act(int desk, int bar) {
            return bar >= 1 && bar <= at(sizes, desk) ? cellOf(bars, desk, bar - 1) : REST;
        }

        void setAct(int desk, int bar, int act) {
            putCell(bars, desk, bar - 1, act);
        }

        void setPart(int desk, int[] row, int size) {
            for (int k = 0; k < size; k++) {
                putCell(bars, desk, k, at(row, k));
            }
            setSize(desk, size);
        }

        // How many were otherwise; what lies between the PART's end and these is rests.
        int setActs(int desk, int from, int to, int act) {
            int otherwise = 0;
            for (int b = from; b <= to; b++) {
                if (act(desk, b) != act) {
                    otherwise++;
                }
            }
            for (int b = size(desk) + 1; b < from; b++) {
                setAct(desk, b, REST);
            }
            for (int b = from; b <= to; b++) {
                setAct(desk, b, act);
            }
            setSize(desk, Math.max(size(desk), to));
            return otherwise;
        }

        int longest(int desks) {
            int most = 0;
            for (int d = 0; d < desks; d++) {
                most = Math.max(most, size(d));
            }
            return most;
        }
    }

    /** An opera: all that its text tells. */
    private static final class Opera {
        int statements;
        int cells;
        int pit;
        int bank;
        int desks;
        final int[] bed;
        final int[] water;
        final int[] sluice;
        final int[] arms;
        final int[][] names;
        final Stand mills;
        final Stand boats;
        final Stand claques;
        final Parts parts;

        Opera() {
            bed = new int[MOST_CELLS];
            water = new int[MOST_CELLS];
            sluice = new int[MOST_CELLS];
            arms = new int[MOST_DESKS];
            names = new int[NAME_KINDS * MOST_DESKS][NAME_LETTERS];
            mills = new Stand();
            boats = new Stand();
            claques = new Stand();
            parts = new Parts();
            clear();
        }

        private void clear() {
            statements = 0;
            cells = 0;
            pit = 0;
            bank = WITHOUT_BANK;
            desks = 0;
            mills.count = 0;
            boats.count = 0;
            claques.count = 0;
            Arrays.fill(bed, 0);
            Arrays.fill(water, 0);
            Arrays.fill(sluice, 0);
        }

        int sluices() {
            int told = 0;
            for (int c = 0; c < cells; c++) {
                told += at(sluice, c);
            }
            return told;
        }

        int named(int kind) {
            switch (kind) {
                case DESK_NAMES: return desks;
                case MILL_NAMES: return mills.count;
                case BOAT_NAMES: return boats.count;
                default: return 0;
            }
        }
    }

    /** Reads a PART from the tape into a row of BARS. */
    private static final class PartReader {
        private static final int MOST_LETTERS = 12;
        private static final int MOST_OPEN = 5;
        // Far above 60: what is longer is refused in the end, however long it is.
        private static final int ENOUGH_BARS = 1000;
        // By number: down, up, rest, trill.
        private static final String ACT_LETTERS = "durt";

        private final Reader reader;
        final int[] bars;
        int count;

        PartReader(Reader reader) {
            this.reader = reader;
            bars = new int[MOST_BARS];
            count = 0;
        }

        private boolean part(int open) {
            if (!groupStands()) {
                return reader.refuse();
            }
            for (int turn = 0; turn < MOST_BYTES && groupStands(); turn++) {
                int start = reader.place;
                if (!group(open)) {
                    return false;
                }
                if (open == 0 && count > MOST_BARS) {
                    return reader.fail(FAULT_MANY, start);
                }
            }
            return true;
        }

        private boolean group(int open) {
            if (!reader.isSign('(')) {
                addLetters();
                reader.step();
                return true;
            }
            if (open >= MOST_OPEN) {
                return reader.fail(FAULT_OPEN, reader.place);
            }
            int start = count;
            reader.step();
            if (!part(open + 1) || !reader.takeSign(')') || !reader.takeWord("times")) {
                return false;
            }
            int times = reader.takeNumber(2, 9);
            if (times < 0) {
                return false;
            }
            repeat(start, times);
            return true;
        }

        private boolean groupStands() {
            if (reader.isSign('(')) {
                return true;
            }
            if (!reader.isSomeWord() || reader.length() > MOST_LETTERS) {
                return false;
            }
            for (int k = 0; k < reader.length(); k++) {
                if (actOf(at(reader.word, k)) < 0) {
                    return false;
                }
            }
            return true;
        }

        private static int actOf(int letter) {
            for (int act = 0; act < ACT_LETTERS.length(); act++) {
                if (ACT_LETTERS.charAt(act) == letter) {
                    return act;
                }
            }
            return NONE;
        }

        private void addLetters() {
            for (int k = 0; k < reader.length(); k++) {
                put(bars, count + k, actOf(at(reader.word, k)));
            }
            count = Math.min(ENOUGH_BARS, count + reader.length());
        }

        private void repeat(int start, int times) {
            int size = count - start;
            int stop = Math.min(ENOUGH_BARS, start + size * times);
            for (int k = count; k < stop; k++) {
                put(bars, k, at(bars, k - size));
            }
            count = stop;
        }
    }

    /** Reads an opera from the tape. */
    private static final class OperaReader {
        private static final String OWN_WORDS =
            "river bed at water desk arms plays pit sluice mill needs boat draft claque drinks bank times ";
        private static final String KINDS = "bed water desk pit sluice mill boat claque bank ";

        private final Reader reader;
        private final PartReader partReader;
        private Opera opera;

        OperaReader(Reader reader, PartReader partReader, Opera opera) {
            this.reader = reader;
            this.partReader = partReader;
            this.opera = opera;
        }

        // The room may be left half filled, if it answers false.
        boolean read(Opera room) {
            opera = room;
            opera.clear();
            for (int told = 0; told < MOST_STATEMENTS; told++) {
                if (told > 0 && reader.isEnd()) {
                    return true;
                }
                boolean good = told == 0 ? takeRiver() : takeStatement();
                if (!good || !reader.takeSign(';')) {
                    return false;
                }
                opera.statements++;
            }
            return reader.isEnd() || reader.fail(FAULT_MANY, reader.place);
        }

        private boolean takeRiver() {
            if (!reader.takeWord("river")) {
                return false;
            }
            int cells = reader.takeNumber(2, MOST_CELLS);
            if (cells < 0) {
                return false;
            }
            opera.cells = cells;
            return true;
        }

        private boolean takeStatement() {
            int kind = reader.wordAmong(KINDS);
            if (kind < 0) {
                return reader.refuse();
            }
            if (isFull(kind)) {
                return reader.fail(FAULT_MANY, reader.place);
            }
            reader.step();
            switch (kind) {
                case 0: return takeGround(opera.bed, 9);
                case 1: return takeGround(opera.water, 99);
                case 2: return takeDesk();
                case 3: return takePit();
                case 4: return takeSluice();
                case 5: return takeStand(opera.mills, MILL_NAMES, "needs", 99);
                case 6: return takeStand(opera.boats, BOAT_NAMES, "draft", 99);
                case 7: return takeStand(opera.claques, NONE, "drinks", 9);
                default: return takeBank();
            }
        }

        private boolean isFull(int kind) {
            switch (kind) {
                case 2: return opera.desks >= MOST_DESKS;
                case 5: return opera.mills.isFull();
                case 6: return opera.boats.isFull();
                case 7: return opera.claques.isFull();
                default: return false;
            }
        }

        private int takeCell() {
            return reader.takeNumber(0, opera.cells - 1);
        }

        private boolean takeGround(int[] row, int most) {
            int amount = reader.takeNumber(0, most);
            if (amount < 0 || !reader.takeWord("at")) {
                return false;
            }
            int cell = takeCell();
            if (cell < 0) {
                return false;
            }
            put(row, cell, amount);
            return true;
        }

        private boolean takeDesk() {
            if (!takeName(DESK_NAMES) || !reader.takeWord("arms")) {
                return false;
            }
            int arms = reader.takeNumber(1, 9);
            if (arms < 0 || !reader.takeWord("plays")) {
                return false;
            }
            partReader.count = 0;
            if (!partReader.part(0)) {
                return false;
            }
            put(opera.arms, opera.desks, arms);
            opera.parts.setPart(opera.desks, partReader.bars, partReader.count);
            opera.desks++;
            return true;
        }

        private boolean takePit() {
            int cell = takeCell();
            if (cell < 0) {
                return false;
            }
            opera.pit = cell;
            return true;
        }

        private boolean takeSluice() {
            int place = reader.place;
            int cell = reader.takeNumber(0, opera.cells - 2);
            if (cell < 0) {
                return false;
            }
            if (at(opera.sluice, cell) == 1) {
                return reader.fail(FAULT_NUMBER, place);
            }
            put(opera.sluice, cell, 1);
            return true;
        }

        private boolean takeStand(Stand stand, int names, String verb, int most) {
            if (names != NONE && !takeName(names) || !reader.takeWord("at")) {
                return false;
            }
            int cell = takeCell();
            if (cell < 0 || !reader.takeWord(verb)) {
                return false;
            }
            int amount = reader.takeNumber(1, most);
            if (amount < 0) {
                return false;
            }
            stand.add(cell, amount);
            return true;
        }

        private boolean takeBank() {
            int height = reader.takeNumber(1, 99);
            if (height < 0) {
                return false;
            }
            opera.bank = height;
            return true;
        }

        // The NAME of the next one of a kind.
        private boolean takeName(int kind) {
            if (!reader.isSomeWord() || reader.wordAmong(OWN_WORDS) >= 0) {
                return reader.refuse();
            }
            if (reader.length() > NAME_LETTERS) {
                return reader.fail(FAULT_TEXT, reader.place + NAME_LETTERS);
            }
            if (isThere()) {
                return reader.fail(FAULT_NAME, reader.place);
            }
            int row = nameRow(kind, opera.named(kind));
            for (int k = 0; k < NAME_LETTERS; k++) {
                putCell(opera.names, row, k, at(reader.word, k));
            }
            reader.step();
            return true;
        }

        private boolean isThere() {
            for (int kind = 0; kind < NAME_KINDS; kind++) {
                for (int which = 0; which < opera.named(kind); which++) {
                    if (isName(nameRow(kind, which))) {
                        return true;
                    }
                }
            }
            return false;
        }

        private boolean isName(int row) {
            for (int k = 0; k < NAME_LETTERS; k++) {
                if (cellOf(opera.names, row, k) != at(reader.word, k)) {
                    return false;
                }
            }
            return true;
        }
    }

    /** A river that is played BAR by BAR, with what is supposed of its DESKS. */
    private static final class Pool {
        final int[] water;
        private final int[] boats;
        int came;
        int ranOut;
        int drunk;
        int spilt;
        boolean trilled;
        // Supposed: the bits of DESKS that rest, a DESK that left a BAR out, BARS behind which all begin anew.
        int silent;
        int hasty;
        int left;
        int behind;

        Pool() {
            water = new int[MOST_CELLS];
            boats = new int[MOST_STANDS];
            suppose();
        }

        private void suppose() {
            silent = 0;
            hasty = NONE;
            left = 0;
            behind = 0;
        }

        void beginTold(Opera opera) {
            suppose();
            for (int c = 0; c < opera.cells; c++) {
                put(water, c, at(opera.water, c));
            }
            for (int i = 0; i < opera.boats.count; i++) {
                put(boats, i, opera.boats.cellOfOne(i));
            }
            came = 0;
            ranOut = 0;
            drunk = 0;
            spilt = 0;
            trilled = false;
        }

        void begin(Run run, int bar) {
            suppose();
            for (int c = 0; c < water.length; c++) {
                put(water, c, run.water(bar, c));
            }
            for (int i = 0; i < boats.length; i++) {
                put(boats, i, run.boatCell(bar, i));
            }
            came = run.measure(bar, CAME);
            ranOut = run.measure(bar, RAN_OUT);
            drunk = run.measure(bar, DRUNK);
            spilt = run.measure(bar, SPILT);
        }

        void play(Opera opera, int bar) {
            bow(opera, bar);
            flow(opera);
            runOut(opera.cells - 1);
            drink(opera);
            spill(opera);
            sail(opera);
        }

        private int act(Opera opera, int desk, int bar) {
            if (((silent >> desk) & 1) == 1) {
                return REST;
            }
            int told = bar - behind;
            if (desk == hasty && told >= left) {
                told++;
            }
            return opera.parts.act(desk, told);
        }

        private void bow(Opera opera, int bar) {
            int inches = 0;
            trilled = false;
            for (int d = 0; d < opera.desks; d++) {
                int act = act(opera, d, bar);
                if (act == DOWN) {
                    inches += at(opera.arms, d);
                } else if (act == TRILL) {
                    trilled = true;
                }
            }
            came += inches;
            put(water, opera.pit, at(water, opera.pit) + inches);
        }

        private boolean isShut(Opera opera, int cell) {
            return trilled && at(opera.sluice, cell) == 1;
        }

        private void flow(Opera opera) {
            for (int c = 0; c < opera.cells - 1; c++) {
                int here = at(water, c);
                int next = at(water, c + 1);
                int above = at(opera.bed, c) + here - at(opera.bed, c + 1) - next;
                if (above > 0 && !isShut(opera, c)) {
                    int inches = Math.min(above / 2, here);
                    put(water, c, here - inches);
                    put(water, c + 1, next + inches);
                }
            }
        }

        private void runOut(int last) {
            int inches = at(water, last) / 2;
            put(water, last, at(water, last) - inches);
            ranOut += inches;
        }

        private void drink(Opera opera) {
            for (int i = 0; i < opera.claques.count; i++) {
                int cell = opera.claques.cellOfOne(i);
                int inches = Math.min(opera.claques.amountOf(i), at(water, cell));
                put(water, cell, at(water, cell) - inches);
                drunk += inches;
            }
        }

        private void spill(Opera opera) {
            for (int c = 0; c < opera.cells; c++) {
                int inches = Math.max(0, at(water, c) - opera.bank);
                put(water, c, at(water, c) - inches);
                spilt += inches;
            }
        }

        private void sail(Opera opera) {
            for (int i = 0; i < opera.boats.count; i++) {
                int cell = at(boats, i);
                boolean floats = !isAground(opera, i) && !isLast(opera, i);
                if (floats && !isShut(opera, cell) && at(water, cell + 1) >= opera.boats.amountOf(i)) {
                    put(boats, i, cell + 1);
                }
            }
        }

        int boatCell(int boat) {
            return at(boats, boat);
        }

        boolean isAground(Opera opera, int boat) {
            return at(water, at(boats, boat)) < opera.boats.amountOf(boat);
        }

        boolean isLast(Opera opera, int boat) {
            return at(boats, boat) == opera.cells - 1;
        }
    }

    /** BARS 0 .. 60 as all is now. */
    private static final class Run {
        private final int[][] waters;
        private final int[][] boats;
        private final int[][] measures;

        Run() {
            waters = new int[MOST_BARS + 1][MOST_CELLS];
            boats = new int[MOST_BARS + 1][MOST_STANDS];
            measures = new int[MOST_BARS + 1][MEASURES];
        }

        int water(int bar, int cell) {
            return cellOf(waters, bar, cell);
        }

        int boatCell(int bar, int boat) {
            return cellOf(boats, bar, boat);
        }

        // What has come, run out, been drunk, been spilt up to a BAR; what is there; BARS with a trill.
        int measure(int bar, int what) {
            return cellOf(measures, bar, what);
        }

        void playAll(Opera opera, Pool pool) {
            pool.beginTold(opera);
            keep(opera, pool, 0);
            for (int b = 1; b <= MOST_BARS; b++) {
                pool.play(opera, b);
                keep(opera, pool, b);
            }
        }

        private void keep(Opera opera, Pool pool, int bar) {
            int there = 0;
            for (int c = 0; c < opera.cells; c++) {
                int inches = at(pool.water, c);
                putCell(waters, bar, c, inches);
                there += inches;
            }
            for (int i = 0; i < opera.boats.count; i++) {
                putCell(boats, bar, i, pool.boatCell(i));
            }
            putCell(measures, bar, CAME, pool.came);
            putCell(measures, bar, RAN_OUT, pool.ranOut);
            putCell(measures, bar, DRUNK, pool.drunk);
            putCell(measures, bar, SPILT, pool.spilt);
            putCell(measures, bar, THERE, there);
            putCell(measures, bar, TRILLED, measure(bar - 1, TRILLED) + (pool.trilled ? 1 : 0));
        }
    }

    /** The last ACTS: of each the DESK and the PART that it had ahead of it. */
    private static final class Acts {
        private final int[] desks;
        private final int[] sizes;
        private final int[][] bars;
        private int next;
        int count;

        Acts() {
            desks = new int[MOST_ACTS];
            sizes = new int[MOST_ACTS];
            bars = new int[MOST_ACTS][MOST_BARS];
            forget();
        }

        void forget() {
            next = 0;
            count = 0;
        }

        // The rows go round: the oldest ACT's room is taken when all are full.
        void keep(Parts parts, int desk) {
            put(desks, next, desk);
            put(sizes, next, parts.size(desk));
            for (int b = 1; b <= MOST_BARS; b++) {
                putCell(bars, next, b - 1, parts.act(desk, b));
            }
            next = next + 1 < MOST_ACTS ? next + 1 : 0;
            count = Math.min(MOST_ACTS, count + 1);
        }

        boolean takeBack(Parts parts) {
            if (count == 0) {
                return false;
            }
            next = next > 0 ? next - 1 : MOST_ACTS - 1;
            count--;
            int desk = at(desks, next);
            for (int b = 1; b <= MOST_BARS; b++) {
                parts.setAct(desk, b, cellOf(bars, next, b - 1));
            }
            parts.setSize(desk, at(sizes, next));
            return true;
        }
    }

    /** Reads a QUESTION; each piece of it becomes a row of what it is in BARS 0 .. 60. */
    private static final class Question {
        private static final String ASKED = "first last often total most least ";
        private static final int FIRST_ASKED = 0;
        private static final int LAST_ASKED = 1;
        private static final int OFTEN_ASKED = 2;
        private static final int TOTAL_ASKED = 3;
        private static final int MOST_ASKED = 4;

        private static final String WORDS = "bar came out drunk spilt trills deep boat min max ";
        private static final int BAR_WORD = 0;
        private static final int TRILLS_WORD = 5;
        private static final int DEEP_WORD = 6;
        private static final int BOAT_WORD = 7;
        private static final int MIN_WORD = 8;

        private static final int MOST_OPEN = 6;
        private static final int MOST_NUMBER = 9999;
        private static final int FURTHEST = 1000000;
        // Five rows may wait in a TEST, three more in each of the six that may be open.
        private static final int MOST_ROWS = 40;

        private final Reader reader;
        private final Run run;
        private final int[][] rows;
        private int used;
        private Opera opera;

        Question(Reader reader, Run run, Opera opera) {
            this.reader = reader;
            this.run = run;
            this.opera = opera;
            rows = new int[MOST_ROWS][MOST_BARS + 1];
            used = 0;
        }

        long answer(Opera now) {
            opera = now;
            used = 0;
            int asked = reader.wordAmong(ASKED);
            if (asked < 0) {
                reader.refuse();
                return NOTHING;
            }
            reader.step();
            boolean good = asked <= OFTEN_ASKED ? test(0) : sum(0);
            if (!good || !reader.ended()) {
                return NOTHING;
            }
            return asked <= OFTEN_ASKED ? tellTest(asked) : tellSum(asked);
        }

        private long tellTest(int asked) {
            int firstBar = NONE;
            int lastBar = NONE;
            int often = 0;
            for (int b = 0; b <= MOST_BARS; b++) {
                if (cellOf(rows, 0, b) != 0) {
                    firstBar = often == 0 ? b : firstBar;
                    lastBar = b;
                    often++;
                }
            }
            if (asked == FIRST_ASKED) {
                return firstBar;
            }
            return asked == LAST_ASKED ? lastBar : often;
        }

        private long tellSum(int asked) {
            long total = 0;
            int most = cellOf(rows, 0, 0);
            int least = most;
            for (int b = 0; b <= MOST_BARS; b++) {
                int value = cellOf(rows, 0, b);
                total += value;
                most = Math.max(most, value);
                least = Math.min(least, value);
            }
            if (asked == TOTAL_ASKED) {
                return total;
            }
            return asked == MOST_ASKED ? most : least;
        }

        // What is open is counted by the argument: a ( [ not deep boat raises it.
        private boolean mayOpen(int open) {
            return open < MOST_OPEN || reader.fail(FAULT_OPEN, reader.place);
        }

        private boolean test(int open) {
            if (!both(open)) {
                return false;
            }
            for (int turn = 0; turn < MOST_BYTES && reader.isWord("or"); turn++) {
                reader.step();
                if (!both(open)) {
                    return false;
                }
                join('|');
            }
            return true;
        }

        private boolean both(int open) {
            if (!fact(open)) {
                return false;
            }
            for (int turn = 0; turn < MOST_BYTES && reader.isWord("and"); turn++) {
                reader.step();
                if (!fact(open)) {
                    return false;
                }
                join('&');
            }
            return true;
        }

        private boolean fact(int open) {
            if (reader.isWord("not")) {
                return mayOpen(open) && negation(open + 1);
            }
            if (reader.isSign('[')) {
                if (!mayOpen(open)) {
                    return false;
                }
                reader.step();
                return test(open + 1) && reader.takeSign(']');
            }
            if (reader.isWord("all")) {
                reader.step();
                addNumber(1);
                return true;
            }
            return comparison(open);
        }

        private boolean negation(int open) {
            reader.step();
            if (!fact(open)) {
                return false;
            }
            for (int b = 0; b <= MOST_BARS; b++) {
                putCell(rows, used - 1, b, cellOf(rows, used - 1, b) == 0 ? 1 : 0);
            }
            return true;
        }

        private boolean comparison(int open) {
            if (!sum(open)) {
                return false;
            }
            char sign = signAmong("<>=");
            if (sign == ' ') {
                return reader.refuse();
            }
            reader.step();
            if (!sum(open)) {
                return false;
            }
            join(sign);
            return true;
        }

        private char signAmong(String signs) {
            for (int k = 0; k < signs.length(); k++) {
                if (reader.isSign(signs.charAt(k))) {
                    return signs.charAt(k);
                }
            }
            return ' ';
        }

        private boolean sum(int open) {
            if (!product(open)) {
                return false;
            }
            for (int turn = 0; turn < MOST_BYTES && signAmong("+-") != ' '; turn++) {
                char sign = signAmong("+-");
                reader.step();
                if (!product(open)) {
                    return false;
                }
                join(sign);
            }
            return true;
        }

        private boolean product(int open) {
            if (!part(open)) {
                return false;
            }
            for (int turn = 0; turn < MOST_BYTES && signAmong("*/") != ' '; turn++) {
                char sign = signAmong("*/");
                reader.step();
                if (!part(open)) {
                    return false;
                }
                join(sign);
            }
            return true;
        }

        private boolean part(int open) {
            if (reader.isSomeNumber()) {
                int number = reader.takeNumber(0, MOST_NUMBER);
                if (number < 0) {
                    return false;
                }
                addNumber(number);
                return true;
            }
            if (reader.isSign('(')) {
                return bracket(open, false) && reader.takeSign(')');
            }
            int word = reader.wordAmong(WORDS);
            if (word < 0) {
                return reader.refuse();
            }
            if (word == DEEP_WORD || word == BOAT_WORD) {
                return lookUp(word, open);
            }
            reader.step();
            if (word < DEEP_WORD) {
                addMeasure(word);
                return true;
            }
            if (!reader.isSign('(')) {
                return reader.refuse();
            }
            if (!bracket(open, true) || !reader.takeSign(')')) {
                return false;
            }
            join(word == MIN_WORD ? 'm' : 'M');
            return true;
        }

        // What stands between ( and ): a SUM, or two with a comma.
        private boolean bracket(int open, boolean two) {
            if (!mayOpen(open)) {
                return false;
            }
            reader.step();
            if (!sum(open + 1)) {
                return false;
            }
            return !two || reader.takeSign(',') && sum(open + 1);
        }

        private boolean lookUp(int word, int open) {
            if (!mayOpen(open)) {
                return false;
            }
            reader.step();
            if (!part(open + 1)) {
                return false;
            }
            for (int b = 0; b <= MOST_BARS; b++) {
                int which = cellOf(rows, used - 1, b);
                putCell(rows, used - 1, b, word == DEEP_WORD ? waterOf(which, b) : boatOf(which, b));
            }
            return true;
        }

        private int waterOf(int cell, int bar) {
            return cell >= 0 && cell < opera.cells ? run.water(bar, cell) : 0;
        }

        private int boatOf(int boat, int bar) {
            return opera.boats.holds(boat) ? run.boatCell(bar, boat) : 0;
        }

        private void addNumber(int number) {
            for (int b = 0; b <= MOST_BARS; b++) {
                putCell(rows, used, b, number);
            }
            used++;
        }

        // What came, ran out, was drunk, spilt is kept in the order of its words, behind that of the BAR.
        private void addMeasure(int word) {
            for (int b = 0; b <= MOST_BARS; b++) {
                int value = b;
                if (word == TRILLS_WORD) {
                    value = run.measure(b, TRILLED) - run.measure(b - 1, TRILLED);
                } else if (word != BAR_WORD) {
                    value = run.measure(b, word - 1);
                }
                putCell(rows, used, b, value);
            }
            used++;
        }

        // The last two rows become one.
        private void join(char sign) {
            used--;
            for (int b = 0; b <= MOST_BARS; b++) {
                int value = joined(sign, cellOf(rows, used - 1, b), cellOf(rows, used, b));
                putCell(rows, used - 1, b, value);
            }
        }

        private static int joined(char sign, int a, int b) {
            switch (sign) {
                case '|': return a != 0 || b != 0 ? 1 : 0;
                case '&': return a != 0 && b != 0 ? 1 : 0;
                case '<': return a < b ? 1 : 0;
                case '>': return a > b ? 1 : 0;
                case '=': return a == b ? 1 : 0;
                case '+': return within((long) a + b);
                case '-': return within((long) a - b);
                case '*': return within((long) a * b);
                case '/': return b == 0 ? 0 : Math.floorDiv(a, b);
                case 'm': return Math.min(a, b);
                default: return Math.max(a, b);
            }
        }

        private static int within(long value) {
            if (value > FURTHEST) {
                return FURTHEST;
            }
            return value < -FURTHEST ? -FURTHEST : (int) value;
        }
    }
}
