import java.util.NoSuchElementException;

/**
 * Disks side by side with two sums of each stripe in a field of 256. What each call promises stands
 * in the document; its words in capitals (THERE, SOLVED, ACT ..) are used here in its sense.
 */
public final class StripeShelf {
    /** None; refused. */
    public static final int NONE = -1;
    /** Not told. */
    public static final int HIDDEN = -1000000;

    // Sorts of ACTS, of STEPS and of entries of the LOG: the document numbers all three alike.
    private static final int WRITTEN = 0;
    private static final int LOST = 1;
    private static final int REPLACED = 2;
    private static final int REBUILT = 3;
    private static final int SCRUBBED = 4;
    private static final int SPOILT = 5;
    private static final int TORN = 6;
    private static final int CLEANED = 7;
    private static final int FULL = 8;

    // Why an ACT is refused: the numbers of STATUS.
    private static final int FINE = -1;
    private static final int NO_SUCH = 0;
    private static final int OUT_OF_BOUNDS = 1;
    private static final int CANNOT_BE = 2;
    private static final int TOO_MUCH = 3;

    private static final int MOST_SCRIPTS = 4;
    private static final int MOST_YEARS = 40;
    private static final int MOST_AT_ONCE = 12;
    private static final int OPEN = -2;

    private final Tape tape = new Tape();
    private final Rules rules = new Rules();
    private final Field field = new Field();
    private final Shelf now = new Shelf(rules, field);
    private final Shelf apart = new Shelf(rules, field);
    private final Shelf kept = new Shelf(rules, field);
    private final Questions questions = new Questions(now);
    private final Log entries = new Log();
    private final Log keptEntries = new Log();
    private final History history = new History();
    private final Draws draws = new Draws();
    private final Script[] scripts = new Script[MOST_SCRIPTS];
    private final int[] refused = new int[4];
    private int scriptCount = 0;
    private int refusal = FINE;
    private boolean imaged = false;

    public StripeShelf() {
        for (int i = 0; i < scripts.length; i++) {
            scripts[i] = new Script();
        }
    }

    // ---- texts

    public int feed(int a, int b, int c, int d, int e) {
        int more = Tape.bytesIn(a) + Tape.bytesIn(b) + Tape.bytesIn(c) + Tape.bytesIn(d) + Tape.bytesIn(e);
        if (tape.size() + more > Tape.ROOM) {
            return NONE;
        }
        tape.append(a);
        tape.append(b);
        tape.append(c);
        tape.append(d);
        tape.append(e);
        return tape.size();
    }

    public boolean end(int n) {
        return tape.cut(n);
    }

    public int fault(int sort) {
        if (sort == 0) {
            return tape.shelfFault();
        }
        return sort == 1 ? tape.scriptFault() : -2;
    }

    public int text(int sort) {
        if (sort == 0) {
            return takeShelf();
        }
        return sort == 1 ? takeScript() : NONE;
    }

    private int takeShelf() {
        if (tape.shelfFault() != NONE) {
            return NONE;
        }
        rules.take(tape);
        field.fill(rules.field);
        now.state.start(rules);
        for (int i = 0; i < tape.byteCount(); i++) {
            if (rules.isAddress(tape.byteAddress(i))) {
                now.carryOut(WRITTEN, tape.byteAddress(i), tape.byteValue(i), 0, 0);
            }
        }
        now.state.forgetCosts();
        history.forget();
        entries.forget();
        imaged = false;
        tape.cut(0);
        return rules.addresses();
    }

    private int takeScript() {
        if (scriptCount < 0 || scriptCount >= scripts.length || scripts[scriptCount] == null) {
            return NONE;
        }
        if (tape.scriptFault() != NONE) {
            return NONE;
        }
        scripts[scriptCount].copy(tape.script());
        tape.cut(0);
        scriptCount++;
        return scriptCount - 1;
    }

    // ---- rules, field, places

    public int rule(int what) {
        if (!rules.present()) {
            return NONE;
        }
        switch (what) {
            case 0: return rules.data;
            case 1: return rules.stripes;
            case 2: return rules.chunk;
            case 3: return rules.field;
            case 4: return now.state.get(State.SPARES);
            case 5: return rules.disks;
            case 6: return rules.addresses();
            default: return NONE;
        }
    }

    public int times(int a, int b) {
        return rules.present() && isByte(a) && isByte(b) ? field.product(a, b) : NONE;
    }

    public int over(int a, int b) {
        return rules.present() && isByte(a) && isByte(b) && b != 0 ? field.quotient(a, b) : NONE;
    }

    public int power(int k) {
        return rules.present() && k >= 0 && k <= 999 ? field.powerOfTwo(k) : NONE;
    }

    public int logOf(int a) {
        return rules.present() && isByte(a) && a != 0 ? field.logarithm(a) : NONE;
    }

    public int place(int address, int what) {
        if (!rules.isAddress(address)) {
            return NONE;
        }
        switch (what) {
            case 0: return rules.diskOf(rules.partOf(address), rules.stripeOf(address));
            case 1: return rules.stripeOf(address);
            case 2: return rules.byteOf(address);
            case 3: return rules.partOf(address);
            default: return NONE;
        }
    }

    public int part(int disk, int stripe) {
        return rules.isDisk(disk) && rules.isStripe(stripe) ? rules.partOn(disk, stripe) : NONE;
    }

    // ---- what stands

    public int read(int address) throws NoSuchElementException {
        if (!rules.isAddress(address)) {
            throw new NoSuchElementException("no such address");
        }
        return now.byteRead(address);
    }

    public int cell(int disk, int stripe, int at) {
        if (!rules.isCell(disk, stripe, at)) {
            return NONE;
        }
        return now.isThere(disk, stripe) ? now.state.byteAt(disk, stripe, at) : HIDDEN;
    }

    public int disk(int disk, int what) {
        if (!rules.isDisk(disk)) {
            return NONE;
        }
        switch (what) {
            case 0: return now.state.get(State.STANDING + disk);
            case 1: return now.state.get(State.DONE + disk);
            case 2: return now.state.get(State.READS + disk);
            case 3: return now.state.get(State.WRITES + disk);
            case 4: return now.state.get(State.MENDED + disk);
            default: return NONE;
        }
    }

    // ---- acts

    public int write(int address, int value) {
        return counted(attempt(WRITTEN, address, value, 0, 0));
    }

    public int lose(int disk) {
        return counted(attempt(LOST, disk, 0, 0, 0));
    }

    public int replace(int disk) {
        return counted(attempt(REPLACED, disk, 0, 0, 0));
    }

    public int rebuild(int disk, int n) {
        return counted(attempt(REBUILT, disk, n, 0, 0));
    }

    public int scrub(int n) {
        return counted(attempt(SCRUBBED, n, 0, 0, 0));
    }

    public int spoil(int disk, int stripe, int at, int x) {
        return counted(attempt(SPOILT, disk, stripe, at, x));
    }

    public int tear(int address, int value, int how) {
        return counted(attempt(TORN, address, value, how, 0));
    }

    public int clean() {
        return counted(attempt(CLEANED, 0, 0, 0, 0));
    }

    public int full(int stripe, int at, int value, int by) {
        return counted(attempt(FULL, stripe, at, value, by));
    }

    public int years(int n, long seed) {
        if (!rules.present() || n < 1 || n > MOST_YEARS) {
            return NONE;
        }
        draws.start(seed);
        for (int i = 0; i < n; i++) {
            int sort = draws.year(rules);
            attempt(sort, draws.number(0), draws.number(1), draws.number(2), draws.number(3));
            if (sort == TORN) {
                attempt(CLEANED, 0, 0, 0, 0);
            }
        }
        return now.state.costEver();
    }

    /** Does an ACT with its entry in the LOG and its way back; 'refusal' tells whether it was done. */
    private int attempt(int sort, int a, int b, int c, int d) {
        refusal = now.refusal(sort, a, b, c, d);
        if (refusal != FINE) {
            return NONE;
        }
        history.keep(now.state);
        int before = now.state.costEver();
        int answer = now.carryOut(sort, a, b, c, d);
        entries.add(sort, sort == CLEANED ? answer : a, now.state.costEver() - before);
        return answer;
    }

    /** Only calls of the face count in STATUS, so this stands apart from attempt. */
    private int counted(int answer) {
        if (refusal >= 0 && refusal < refused.length) {
            refused[refusal]++;
        }
        return answer;
    }

    public int status(int what) {
        return what >= 0 && what < refused.length ? refused[what] : NONE;
    }

    public int undo() {
        if (history.size() == 0) {
            return NONE;
        }
        history.bringBack(now.state);
        entries.drop();
        return history.size();
    }

    public int log(int i, int what) {
        return entries.tell(i, what);
    }

    // ---- questions

    public int cost(int address, int what) {
        return rules.isAddress(address) ? questions.costOf(address, what) : NONE;
    }

    public int told(int disk, int stripe, int at, int other, int third) {
        if (!rules.isCell(disk, stripe, at) || !rules.isDisk(other) || !rules.isDisk(third)) {
            return NONE;
        }
        return other == disk || third == disk ? questions.toldOf(disk, stripe, at, other, third) : NONE;
    }

    public int who(int stripe, int at) {
        return rules.isStripe(stripe) && rules.isByteOfChunk(at) ? questions.wrongDisk(stripe, at) : HIDDEN;
    }

    public int more() {
        return rules.present() ? questions.losable() : NONE;
    }

    public int left(int what) {
        if (!rules.present()) {
            return NONE;
        }
        if (what == 0) {
            return questions.stripesLeft();
        }
        return what == 1 ? questions.readsLeft() : NONE;
    }

    public int fit() {
        return rules.present() ? questions.fitStripes() : NONE;
    }

    public int checked(int address) {
        return rules.isAddress(address) ? questions.byteIfScrubbed(address) : NONE;
    }

    public int equal() {
        return imaged ? questions.sameAs(kept) : NONE;
    }

    public int span(int what) {
        if (!rules.present() || what < 0 || what > 1) {
            return NONE;
        }
        return questions.longestHidden(what);
    }

    public int risk() {
        return rules.present() ? questions.losableCouples() : NONE;
    }

    public int first(int what) {
        return rules.present() ? questions.nearestWhole(what) : NONE;
    }

    public int votes(int address, int value) {
        return rules.isAddress(address) && isByte(value) ? questions.votesFor(address, value) : NONE;
    }

    // ---- scripts

    public int step(int script, int i, int what) {
        return isScript(script) ? scripts[script].tell(i, what) : HIDDEN;
    }

    public int run(int script, int what) {
        if (!isScript(script) || !rules.present() || what < 0 || what > 1) {
            return HIDDEN;
        }
        apart.state.copy(now.state);
        int done = apart.doneOf(scripts[script]);
        if (what == 1) {
            return apart.state.costEver() - now.state.costEver();
        }
        return done == scripts[script].size() ? NONE : done;
    }

    public int perform(int script) {
        if (!isScript(script) || !rules.present()) {
            return NONE;
        }
        Script steps = scripts[script];
        for (int i = 0; i < steps.size(); i++) {
            attempt(steps.sort(i), steps.number(i, 0), steps.number(i, 1), steps.number(i, 2), steps.number(i, 3));
            if (refusal != FINE) {
                return i;
            }
        }
        return steps.size();
    }

    private boolean isScript(int script) {
        return script >= 0 && script < scriptCount && script < scripts.length && scripts[script] != null;
    }

    // ---- the whole

    public int most(int what) {
        if (!rules.present()) {
            return HIDDEN;
        }
        State state = now.state;
        switch (what) {
            case 0: return state.sumOfDisks(State.READS);
            case 1: return state.sumOfDisks(State.WRITES);
            case 2: return state.sumOfDisks(State.MENDED);
            case 3: return state.get(State.OPEN_EVER);
            case 4: return state.get(State.PASSED);
            case 5: return state.get(State.NEXT);
            case 6: return state.get(State.DIRTY);
            case 7: return now.notWhole();
            case 8: return state.get(State.LAST_DISK);
            case 9: return state.get(State.LAST_STRIPE);
            case 10: return state.get(State.LAST_BYTE);
            default: return HIDDEN;
        }
    }

    public int image() {
        if (!rules.present()) {
            return NONE;
        }
        kept.state.copy(now.state);
        keptEntries.copy(entries);
        imaged = true;
        return now.state.costEver();
    }

    public int back() {
        if (!imaged) {
            return NONE;
        }
        now.state.copy(kept.state);
        entries.copy(keptEntries);
        history.forget();
        return now.state.costEver();
    }

    public int count(int what) {
        switch (what) {
            case 0: return rules.addresses();
            case 1: return scriptCount;
            case 2: return tape.size();
            case 3: return entries.length();
            case 4: return history.size();
            default: return HIDDEN;
        }
    }

    private static boolean isByte(int value) {
        return value >= 0 && value <= 255;
    }

    /** The TAPE and the reading of it; what a reading found stays until the next one. */
    private static final class Tape {
        static final int ROOM = 280;
        private static final int MOST_BYTES = 16;
        private static final int ITEMS = 7;
        /** Items 0 to 4 belong to s, 5 and 6 to v; the four rows below go together. */
        private static final String ITEM_LETTERS = "dtcfkax";
        private static final int[] LOWEST = {2, 1, 1, 0, 0, 0, 0};
        private static final int[] HIGHEST = {6, 12, 4, 3, 9, 287, 255};
        private static final int[] WITHOUT = {3, 4, 2, 0, 1, 0, 1};
        private static final int LAST_RULE = 4;
        private static final int ADDRESS_ITEM = 5;
        private static final int VALUE_ITEM = 6;
        private static final int END = 0;

        private final int[] signs = new int[ROOM];
        private int size = 0;
        private int at = 0;
        private int wrongAt = NONE;
        private int numberFound = 0;
        private final int[] items = new int[ITEMS];
        private final int[] bytes = new int[2 * MOST_BYTES];
        private int byteCount = 0;
        private boolean rulesSeen = false;
        private final Script script = new Script();

        int size() {
            return size;
        }

        static int bytesIn(int word) {
            int found = 0;
            for (int shift = 24; shift >= 0; shift -= 8) {
                if ((word >>> shift & 255) != 0) {
                    found++;
                }
            }
            return found;
        }

        void append(int word) {
            for (int shift = 24; shift >= 0; shift -= 8) {
                int sign = word >>> shift & 255;
                if (sign != 0 && size >= 0 && size < ROOM) {
                    signs[size] = sign;
                    size++;
                }
            }
        }

        boolean cut(int n) {
            if (n < 0 || n > size) {
                return false;
            }
            size = n;
            return true;
        }

        int item(int which) {
            return which >= 0 && which < ITEMS ? items[which] : 0;
        }

        int byteCount() {
            return byteCount;
        }

        int byteAddress(int i) {
            return i >= 0 && i < byteCount && i < MOST_BYTES ? bytes[2 * i] : NONE;
        }

        int byteValue(int i) {
            return i >= 0 && i < byteCount && i < MOST_BYTES ? bytes[2 * i + 1] : 0;
        }

        Script script() {
            return script;
        }

        int shelfFault() {
            at = 0;
            byteCount = 0;
            rulesSeen = false;
            useDefaults(0, ITEMS - 1);
            for (int clauses = 0; clauses <= ROOM; clauses++) {
                if (!clause()) {
                    return wrongAt;
                }
                if (sign() == END) {
                    return NONE;
                }
                at++;
            }
            return at;
        }

        private boolean clause() {
            skipBlanks();
            if (sign() == 's' && !rulesSeen) {
                rulesSeen = true;
                at++;
                return readItems(0, LAST_RULE);
            }
            if (sign() != 'v' || byteCount < 0 || byteCount >= MOST_BYTES) {
                return wrong(at);
            }
            at++;
            useDefaults(ADDRESS_ITEM, VALUE_ITEM);
            if (!readItems(ADDRESS_ITEM, VALUE_ITEM)) {
                return false;
            }
            bytes[2 * byteCount] = items[ADDRESS_ITEM];
            bytes[2 * byteCount + 1] = items[VALUE_ITEM];
            byteCount++;
            return true;
        }

        private void useDefaults(int first, int last) {
            for (int i = Math.max(first, 0); i <= last && i < ITEMS; i++) {
                items[i] = WITHOUT[i];
            }
        }

        /** Leaves off at the ; behind the CLAUSE or at the end. */
        private boolean readItems(int first, int last) {
            int seen = 0;
            for (int guard = 0; guard <= ROOM; guard++) {
                skipBlanks();
                if (sign() == END || sign() == ';') {
                    return true;
                }
                int item = ITEM_LETTERS.indexOf((char) sign());
                if (item < 0 || item < first || item > last || item >= ITEMS || (seen >> item & 1) != 0) {
                    return wrong(at);
                }
                seen |= 1 << item;
                at++;
                if (!readNumber(LOWEST[item], HIGHEST[item])) {
                    return false;
                }
                items[item] = numberFound;
            }
            return wrong(at);
        }

        int scriptFault() {
            at = 0;
            script.clear();
            for (int i = 0; i < Script.MOST_STEPS; i++) {
                if (!readStep(i)) {
                    return wrongAt;
                }
                skipBlanks();
                if (sign() == END) {
                    return NONE;
                }
                if (sign() != ';') {
                    return at;
                }
                at++;
            }
            return at - 1;
        }

        private boolean readStep(int i) {
            skipBlanks();
            int sort = sign() == END ? NONE : Script.LETTERS.indexOf((char) sign());
            if (sort < 0) {
                return wrong(at);
            }
            at++;
            script.add(sort);
            for (int j = 0; j < Script.numbersOf(sort); j++) {
                if (j > 0 && !readComma()) {
                    return false;
                }
                if (!readNumber(0, 999)) {
                    return false;
                }
                script.put(i, j, numberFound);
            }
            return true;
        }

        private boolean readComma() {
            skipBlanks();
            if (sign() != ',') {
                return wrong(at);
            }
            at++;
            return true;
        }

        /** The fourth digit is looked for first: it is the FAULT whatever the three ahead of it tell. */
        private boolean readNumber(int low, int high) {
            skipBlanks();
            int value = 0;
            int digits = 0;
            while (digits < 3 && isDigit(sign())) {
                value = 10 * value + sign() - '0';
                digits++;
                at++;
            }
            if (digits == 0 || isDigit(sign())) {
                return wrong(at);
            }
            if (value < low || value > high) {
                return wrong(at - 1);
            }
            numberFound = value;
            return true;
        }

        private static boolean isDigit(int sign) {
            return sign >= '0' && sign <= '9';
        }

        private void skipBlanks() {
            while (at >= 0 && at < size && at < ROOM && signs[at] == ' ') {
                at++;
            }
        }

        /** END can't be met within the TAPE: bytes of 0 never come to it. */
        private int sign() {
            return at >= 0 && at < size && at < ROOM ? signs[at] : END;
        }

        private boolean wrong(int where) {
            wrongAt = where;
            return false;
        }
    }

    /** The STEPS of one SCRIPT. */
    private static final class Script {
        static final int MOST_STEPS = 16;
        static final String LETTERS = "wlnrspzyf";
        private static final int[] NUMBERS = {2, 1, 1, 2, 1, 4, 3, 0, 4};
        private static final int WIDTH = 4;

        private final int[] sorts = new int[MOST_STEPS];
        private final int[] numbers = new int[WIDTH * MOST_STEPS];
        private int size = 0;

        static int numbersOf(int sort) {
            return sort >= 0 && sort < NUMBERS.length ? NUMBERS[sort] : 0;
        }

        int size() {
            return size;
        }

        void clear() {
            size = 0;
        }

        void add(int sort) {
            if (size >= 0 && size < MOST_STEPS) {
                sorts[size] = sort;
                size++;
            }
        }

        void put(int i, int j, int number) {
            if (isStep(i) && j >= 0 && j < WIDTH) {
                numbers[WIDTH * i + j] = number;
            }
        }

        int sort(int i) {
            return isStep(i) ? sorts[i] : NONE;
        }

        int number(int i, int j) {
            return isStep(i) && j >= 0 && j < WIDTH ? numbers[WIDTH * i + j] : 0;
        }

        int tell(int i, int what) {
            if (!isStep(i) || what < 0 || what > WIDTH) {
                return HIDDEN;
            }
            if (what == 0) {
                return sorts[i];
            }
            return what <= numbersOf(sorts[i]) ? numbers[WIDTH * i + what - 1] : NONE;
        }

        private boolean isStep(int i) {
            return i >= 0 && i < size && i < MOST_STEPS;
        }

        void copy(Script other) {
            System.arraycopy(other.sorts, 0, sorts, 0, MOST_STEPS);
            System.arraycopy(other.numbers, 0, numbers, 0, WIDTH * MOST_STEPS);
            size = other.size;
        }
    }

    /**
     * The RULES and where all lies. PARTS are numbered 0 to DATA less 1, P is DATA, Q is DATA and 1,
     * as the face tells them. Without a SHELF all is 0, so that no DISK, STRIPE or ADDRESS is one.
     */
    private static final class Rules {
        int data = 0;
        int stripes = 0;
        int chunk = 0;
        int field = 0;
        int spares = 0;
        int disks = 0;
        int partP = 0;
        int partQ = 0;
        /** Bits of all PARTS, and of these, P and Q. */
        int dataBits = 0;
        int allBits = 0;

        void take(Tape tape) {
            data = tape.item(0);
            stripes = tape.item(1);
            chunk = tape.item(2);
            field = tape.item(3);
            spares = tape.item(4);
            disks = data + 2;
            partP = data;
            partQ = data + 1;
            dataBits = (1 << data) - 1;
            allBits = (1 << disks) - 1;
        }

        boolean present() {
            return disks > 0;
        }

        int addresses() {
            return data * stripes * chunk;
        }

        boolean isAddress(int address) {
            return address >= 0 && address < addresses();
        }

        boolean isDisk(int disk) {
            return disk >= 0 && disk < disks;
        }

        boolean isStripe(int stripe) {
            return stripe >= 0 && stripe < stripes;
        }

        boolean isByteOfChunk(int at) {
            return at >= 0 && at < chunk;
        }

        boolean isCell(int disk, int stripe, int at) {
            return isDisk(disk) && isStripe(stripe) && isByteOfChunk(at);
        }

        int byteOf(int address) {
            return chunk < 1 ? 0 : address % chunk;
        }

        int partOf(int address) {
            return chunk < 1 || data < 1 ? 0 : address / chunk % data;
        }

        int stripeOf(int address) {
            return chunk < 1 || data < 1 ? 0 : address / chunk / data;
        }

        int diskOf(int part, int stripe) {
            if (disks < 1) {
                return 0;
            }
            int behindP = part >= data ? part - data : part + 2;
            return Math.floorMod(disks - 1 - stripe % disks + behindP, disks);
        }

        int partOn(int disk, int stripe) {
            if (disks < 1) {
                return 0;
            }
            int behindP = Math.floorMod(disk - (disks - 1 - stripe % disks), disks);
            return behindP < 2 ? data + behindP : behindP - 2;
        }
    }

    /** The FIELD that the RULES name: its tables are filled anew for each SHELF. */
    private static final class Field {
        private static final int[] POLYNOMIALS = {285, 299, 301, 333};
        private static final int ORDER = 255;

        private final int[] powers = new int[ORDER];
        private final int[] logs = new int[ORDER + 1];
        private int polynomial = 0;

        void fill(int number) {
            if (number < 0 || number >= POLYNOMIALS.length) {
                return;
            }
            polynomial = POLYNOMIALS[number];
            int value = 1;
            for (int k = 0; k < ORDER; k++) {
                powers[k] = value;
                logs[value & 255] = k;
                value = value << 1 ^ (value >>> 7) * polynomial;
            }
        }

        int powerOfTwo(int k) {
            return powers[Math.floorMod(k, ORDER)];
        }

        int logarithm(int a) {
            return logs[a & 255];
        }

        int product(int a, int b) {
            if (a == 0 || b == 0) {
                return 0;
            }
            return powers[Math.floorMod(logs[a & 255] + logs[b & 255], ORDER)];
        }

        /** Of a divisor of 0 there is none; callers ask first, 0 is answered all the same. */
        int quotient(int a, int b) {
            if (a == 0 || b == 0) {
                return 0;
            }
            return powers[Math.floorMod(logs[a & 255] - logs[b & 255], ORDER)];
        }

        /** The sum of each byte times 2 to the power of its index: doubled step by step from the last one. */
        int sumByPowers(int[] row, int length) {
            int sum = 0;
            for (int i = Math.min(length, row.length) - 1; i >= 0; i--) {
                sum = sum << 1 ^ (sum >>> 7) * polynomial ^ row[i];
            }
            return sum;
        }
    }

    /** All that ACTS change but the LOG, in one row, so that one copy keeps it or brings it back. */
    private static final class State {
        private static final int DISKS = 8;
        private static final int STRIPES = 12;
        private static final int CHUNK = 4;
        /** A CHUNK is one slot, a BYTE eight bits of it: the HISTORY holds 40 such rows. */
        private static final int CHUNKS = DISKS * STRIPES;
        static final int STANDING = CHUNKS;
        static final int DONE = STANDING + DISKS;
        static final int READS = DONE + DISKS;
        static final int WRITES = READS + DISKS;
        static final int MENDED = WRITES + DISKS;
        static final int SPARES = MENDED + DISKS;
        static final int OPEN_EVER = SPARES + 1;
        static final int PASSED = SPARES + 2;
        static final int NEXT = SPARES + 3;
        static final int DIRTY = SPARES + 4;
        static final int LAST_DISK = SPARES + 5;
        static final int LAST_STRIPE = SPARES + 6;
        static final int LAST_BYTE = SPARES + 7;
        static final int SIZE = SPARES + 8;

        // What stands at STANDING, as the face tells it.
        static final int IS_WHOLE = 0;
        static final int IS_LOST = 1;
        static final int IS_REBUILT = 2;

        private final int[] slots = new int[SIZE];

        void start(Rules rules) {
            for (int i = 0; i < SIZE; i++) {
                slots[i] = 0;
            }
            for (int disk = 0; disk < DISKS; disk++) {
                slots[DONE + disk] = rules.stripes;
            }
            slots[SPARES] = rules.spares;
            slots[LAST_DISK] = NONE;
            slots[LAST_STRIPE] = NONE;
            slots[LAST_BYTE] = NONE;
        }

        void forgetCosts() {
            for (int disk = 0; disk < DISKS; disk++) {
                slots[READS + disk] = 0;
                slots[WRITES + disk] = 0;
            }
        }

        int get(int slot) {
            return slot >= 0 && slot < SIZE ? slots[slot] : 0;
        }

        void set(int slot, int value) {
            if (slot >= 0 && slot < SIZE) {
                slots[slot] = value;
            }
        }

        void add(int slot, int more) {
            if (slot >= 0 && slot < SIZE) {
                slots[slot] += more;
            }
        }

        int sumOfDisks(int from) {
            int sum = 0;
            for (int disk = 0; disk < DISKS; disk++) {
                sum += get(from + disk);
            }
            return sum;
        }

        int costEver() {
            return sumOfDisks(READS) + sumOfDisks(WRITES);
        }

        int byteAt(int disk, int stripe, int at) {
            int slot = disk * STRIPES + stripe;
            return slot >= 0 && slot < CHUNKS && at >= 0 && at < CHUNK ? slots[slot] >>> 8 * at & 255 : 0;
        }

        void putByte(int disk, int stripe, int at, int value) {
            int slot = disk * STRIPES + stripe;
            if (slot >= 0 && slot < CHUNKS && at >= 0 && at < CHUNK) {
                slots[slot] = slots[slot] & ~(255 << 8 * at) | (value & 255) << 8 * at;
            }
        }

        void copy(State other) {
            System.arraycopy(other.slots, 0, slots, 0, SIZE);
        }

        void saveTo(int[] rows, int from) {
            if (from >= 0 && from <= rows.length - SIZE) {
                System.arraycopy(slots, 0, rows, from, SIZE);
            }
        }

        void loadFrom(int[] rows, int from) {
            if (from >= 0 && from <= rows.length - SIZE) {
                System.arraycopy(rows, from, slots, 0, SIZE);
            }
        }
    }

    /** One BYTE of a STRIPE over all its CHUNKS: its PARTS, then P, then Q. */
    private static final class Row {
        private final Rules rules;
        private final Field field;
        private final int[] bytes = new int[State.DISKS];

        Row(Rules rules, Field field) {
            this.rules = rules;
            this.field = field;
        }

        int get(int part) {
            return part >= 0 && part < bytes.length ? bytes[part] : 0;
        }

        void set(int part, int value) {
            if (part >= 0 && part < bytes.length) {
                bytes[part] = value & 255;
            }
        }

        /** Fills the row as it stands, with 0 for what is in 'missing' (bits of PARTS, P and Q). */
        void load(State state, int stripe, int at, int missing) {
            for (int part = 0; part < rules.disks && part < bytes.length; part++) {
                boolean there = (missing >> part & 1) == 0;
                bytes[part] = there ? state.byteAt(rules.diskOf(part, stripe), stripe, at) : 0;
            }
        }

        /** Fills the row: what is in 'missing', two at most, is SOLVED from the others. */
        void gather(State state, int stripe, int at, int missing) {
            load(state, stripe, at, missing);
            int parts = missing & rules.dataBits;
            boolean hasP = (missing >> rules.partP & 1) == 0;
            if (parts != 0) {
                solveParts(parts, hasP);
            }
            if (!hasP) {
                set(rules.partP, sumForP());
            }
            if ((missing >> rules.partQ & 1) != 0) {
                set(rules.partQ, field.sumByPowers(bytes, rules.data));
            }
        }

        /** Missing PARTS stand as 0 here, so the sums of all are those of the others. */
        private void solveParts(int parts, boolean hasP) {
            int i = Integer.numberOfTrailingZeros(parts);
            int j = 31 - Integer.numberOfLeadingZeros(parts);
            int powerI = field.powerOfTwo(i);
            int powerJ = field.powerOfTwo(j);
            int p = sumForP() ^ get(rules.partP);
            int q = field.sumByPowers(bytes, rules.data) ^ get(rules.partQ);
            if (i == j) {
                set(i, hasP ? p : field.quotient(q, powerI));
            } else {
                set(i, field.quotient(q ^ field.product(p, powerJ), powerI ^ powerJ));
                set(j, p ^ get(i));
            }
        }

        private int sumForP() {
            int sum = 0;
            for (int part = 0; part < rules.data && part < bytes.length; part++) {
                sum ^= bytes[part];
            }
            return sum;
        }

        void reckonSums() {
            set(rules.partP, sumForP());
            set(rules.partQ, field.sumByPowers(bytes, rules.data));
        }

        /** The SMALL way: both sums are more by the change alone, wrong as they may be. */
        void change(int part, int value) {
            int change = get(part) ^ value;
            set(part, value);
            set(rules.partP, get(rules.partP) ^ change);
            set(rules.partQ, get(rules.partQ) ^ field.product(change, field.powerOfTwo(part)));
        }

        /** Who is wrong by both sums: a PART, P or Q; NONE; OPEN. */
        int wrongPart() {
            int u = sumForP() ^ get(rules.partP);
            int v = field.sumByPowers(bytes, rules.data) ^ get(rules.partQ);
            if (u == 0 && v == 0) {
                return NONE;
            }
            if (v == 0) {
                return rules.partP;
            }
            if (u == 0) {
                return rules.partQ;
            }
            int exponent = field.logarithm(field.quotient(v, u));
            return exponent < rules.data ? exponent : OPEN;
        }

        void mend(int part) {
            int sum = part == rules.partQ ? field.sumByPowers(bytes, rules.data) : sumForP();
            int sumAsItStands = part == rules.partQ ? get(rules.partQ) : get(rules.partP);
            set(part, get(part) ^ sum ^ sumAsItStands);
        }
    }

    /** The DISKS as they stand in one state, and the ACTS upon them. */
    private static final class Shelf {
        static final int SMALL = 0;
        static final int WIDE = 1;
        static final int SOLVING = 2;

        final Rules rules;
        final State state = new State();
        final Row row;

        Shelf(Rules rules, Field field) {
            this.rules = rules;
            this.row = new Row(rules, field);
        }

        boolean isThere(int disk, int stripe) {
            return stripe < state.get(State.DONE + disk);
        }

        boolean stands(int disk, int standing) {
            return state.get(State.STANDING + disk) == standing;
        }

        boolean isDirty(int stripe) {
            return (state.get(State.DIRTY) >> stripe & 1) != 0;
        }

        /** What of a STRIPE is not THERE, as bits of PARTS, P and Q. */
        int missing(int stripe) {
            int bits = 0;
            for (int part = 0; part < rules.disks; part++) {
                if (!isThere(rules.diskOf(part, stripe), stripe)) {
                    bits |= 1 << part;
                }
            }
            return bits;
        }

        int notWhole() {
            int bits = 0;
            for (int disk = 0; disk < rules.disks; disk++) {
                if (state.get(State.STANDING + disk) != State.IS_WHOLE) {
                    bits |= 1 << disk;
                }
            }
            return bits;
        }

        boolean canLose(int disk) {
            if (stands(disk, State.IS_LOST)) {
                return false;
            }
            return !stands(disk, State.IS_WHOLE) || Integer.bitCount(notWhole()) < 2;
        }

        int byteRead(int address) {
            int stripe = rules.stripeOf(address);
            row.gather(state, stripe, rules.byteOf(address), missing(stripe));
            return row.get(rules.partOf(address));
        }

        // ---- the three ways of a write

        int wayOf(int missing, int part) {
            boolean own = (missing >> part & 1) == 0;
            boolean others = (missing & rules.dataBits & ~(1 << part)) == 0;
            if (!own) {
                return others ? WIDE : SOLVING;
            }
            // All ways write the same, so reads alone tell the cheaper one.
            int smallReads = Integer.bitCount(readBits(SMALL, missing, part));
            int wideReads = Integer.bitCount(readBits(WIDE, missing, part));
            return others && wideReads < smallReads ? WIDE : SMALL;
        }

        int readBits(int way, int missing, int part) {
            if (way == SMALL) {
                return writeBits(missing, part);
            }
            int asked = way == WIDE ? rules.dataBits & ~(1 << part) : rules.allBits;
            return asked & ~missing;
        }

        int writeBits(int missing, int part) {
            return (1 << part | 1 << rules.partP | 1 << rules.partQ) & ~missing;
        }

        // ---- what an ACT reads and writes

        private void countReads(int stripe, int bits) {
            for (int part = 0; part < rules.disks; part++) {
                if ((bits >> part & 1) != 0) {
                    state.add(State.READS + rules.diskOf(part, stripe), 1);
                }
            }
        }

        private void store(int stripe, int at, int bits) {
            for (int part = 0; part < rules.disks; part++) {
                if ((bits >> part & 1) != 0) {
                    int disk = rules.diskOf(part, stripe);
                    state.putByte(disk, stripe, at, row.get(part));
                    state.add(State.WRITES + disk, 1);
                }
            }
        }

        // ---- what can't be

        int refusal(int sort, int a, int b, int c, int d) {
            switch (sort) {
                case WRITTEN: return refusalOfWrite(a, b);
                case LOST: return refusalOfLoss(a);
                case REPLACED: return refusalOfReplacing(a);
                case REBUILT: return refusalOfRebuilding(a, b);
                case SCRUBBED: return refusalOfScrubbing(a);
                case SPOILT: return refusalOfSpoiling(a, b, c, d);
                case TORN: return refusalOfTearing(a, b, c);
                case CLEANED: return refusalOfCleaning();
                case FULL: return refusalOfFull(a, b, c, d);
                default: return NO_SUCH;
            }
        }

        private int refusalOfWrite(int address, int value) {
            if (!rules.isAddress(address)) {
                return NO_SUCH;
            }
            return isByte(value) ? FINE : OUT_OF_BOUNDS;
        }

        private int refusalOfLoss(int disk) {
            if (!rules.isDisk(disk)) {
                return NO_SUCH;
            }
            if (stands(disk, State.IS_LOST)) {
                return CANNOT_BE;
            }
            return canLose(disk) ? FINE : TOO_MUCH;
        }

        private int refusalOfReplacing(int disk) {
            if (!rules.isDisk(disk)) {
                return NO_SUCH;
            }
            if (!stands(disk, State.IS_LOST)) {
                return CANNOT_BE;
            }
            return state.get(State.SPARES) > 0 ? FINE : TOO_MUCH;
        }

        private int refusalOfRebuilding(int disk, int n) {
            if (!rules.isDisk(disk)) {
                return NO_SUCH;
            }
            if (n < 1 || n > MOST_AT_ONCE) {
                return OUT_OF_BOUNDS;
            }
            return stands(disk, State.IS_REBUILT) ? FINE : CANNOT_BE;
        }

        private int refusalOfScrubbing(int n) {
            if (!rules.present()) {
                return NO_SUCH;
            }
            return n < 1 || n > MOST_AT_ONCE ? OUT_OF_BOUNDS : FINE;
        }

        private int refusalOfSpoiling(int disk, int stripe, int at, int x) {
            if (!rules.isCell(disk, stripe, at)) {
                return NO_SUCH;
            }
            if (!isByte(x) || x == 0) {
                return OUT_OF_BOUNDS;
            }
            return isThere(disk, stripe) ? FINE : CANNOT_BE;
        }

        private int refusalOfTearing(int address, int value, int how) {
            if (!rules.isAddress(address)) {
                return NO_SUCH;
            }
            if (!isByte(value) || how < 0 || how > 2) {
                return OUT_OF_BOUNDS;
            }
            int three = writeBits(0, rules.partOf(address));
            return (missing(rules.stripeOf(address)) & three) == 0 ? FINE : CANNOT_BE;
        }

        private int refusalOfCleaning() {
            if (!rules.present()) {
                return NO_SUCH;
            }
            for (int stripe = 0; stripe < rules.stripes; stripe++) {
                if (isDirty(stripe) && missing(stripe) == 0) {
                    return FINE;
                }
            }
            return CANNOT_BE;
        }

        private int refusalOfFull(int stripe, int at, int value, int by) {
            if (!rules.isStripe(stripe) || !rules.isByteOfChunk(at)) {
                return NO_SUCH;
            }
            return isByte(value) && isByte(by) ? FINE : OUT_OF_BOUNDS;
        }

        // ---- the ACTS, once it is known that they can be

        int carryOut(int sort, int a, int b, int c, int d) {
            switch (sort) {
                case WRITTEN: return doWrite(a, b);
                case LOST: return doLose(a);
                case REPLACED: return doReplace(a);
                case REBUILT: return doRebuild(a, b);
                case SCRUBBED: return doScrub(a);
                case SPOILT: return doSpoil(a, b, c, d);
                case TORN: return doTear(a, b, c);
                case CLEANED: return doClean();
                case FULL: return doFull(a, b, c, d);
                default: return NONE;
            }
        }

        private int doWrite(int address, int value) {
            int stripe = rules.stripeOf(address);
            int part = rules.partOf(address);
            int at = rules.byteOf(address);
            int missing = missing(stripe);
            int way = wayOf(missing, part);
            row.gather(state, stripe, at, missing);
            int ahead = row.get(part);
            if (way == SMALL) {
                row.change(part, value);
            } else {
                row.set(part, value);
                row.reckonSums();
            }
            countReads(stripe, readBits(way, missing, part));
            store(stripe, at, writeBits(missing, part));
            return ahead;
        }

        private int doLose(int disk) {
            state.set(State.STANDING + disk, State.IS_LOST);
            state.set(State.DONE + disk, 0);
            return Integer.bitCount(notWhole());
        }

        private int doReplace(int disk) {
            state.set(State.STANDING + disk, State.IS_REBUILT);
            state.add(State.SPARES, -1);
            return state.get(State.SPARES);
        }

        private int doRebuild(int disk, int n) {
            int done = state.get(State.DONE + disk);
            int last = Math.min(done + n, rules.stripes);
            for (int stripe = done; stripe < last; stripe++) {
                int missing = missing(stripe);
                for (int at = 0; at < rules.chunk; at++) {
                    row.gather(state, stripe, at, missing);
                    countReads(stripe, rules.allBits & ~missing);
                    store(stripe, at, 1 << rules.partOn(disk, stripe));
                }
            }
            state.set(State.DONE + disk, last);
            if (last == rules.stripes) {
                state.set(State.STANDING + disk, State.IS_WHOLE);
            }
            return last;
        }

        private int doScrub(int n) {
            int mended = 0;
            for (int i = 0; i < n; i++) {
                int stripe = state.get(State.NEXT);
                state.set(State.NEXT, stripe + 1 < rules.stripes ? stripe + 1 : 0);
                if (isDirty(stripe) || missing(stripe) != 0) {
                    state.add(State.PASSED, 1);
                } else {
                    mended += scrubStripe(stripe);
                }
            }
            return mended;
        }

        private int scrubStripe(int stripe) {
            int mended = 0;
            for (int at = 0; at < rules.chunk; at++) {
                row.load(state, stripe, at, 0);
                countReads(stripe, rules.allBits);
                int wrong = row.wrongPart();
                if (wrong == OPEN) {
                    state.add(State.OPEN_EVER, 1);
                } else if (wrong != NONE) {
                    row.mend(wrong);
                    store(stripe, at, 1 << wrong);
                    noteMended(rules.diskOf(wrong, stripe), stripe, at);
                    mended++;
                }
            }
            return mended;
        }

        private void noteMended(int disk, int stripe, int at) {
            state.add(State.MENDED + disk, 1);
            state.set(State.LAST_DISK, disk);
            state.set(State.LAST_STRIPE, stripe);
            state.set(State.LAST_BYTE, at);
        }

        private int doSpoil(int disk, int stripe, int at, int x) {
            int spoilt = state.byteAt(disk, stripe, at) ^ x;
            state.putByte(disk, stripe, at, spoilt);
            return spoilt;
        }

        private int doTear(int address, int value, int how) {
            int stripe = rules.stripeOf(address);
            int part = rules.partOf(address);
            int at = rules.byteOf(address);
            int missing = missing(stripe);
            row.gather(state, stripe, at, missing);
            row.change(part, value);
            countReads(stripe, writeBits(missing, part));
            if (how > 0) {
                store(stripe, at, how == 1 ? 1 << part : 1 << part | 1 << rules.partP);
            }
            state.set(State.DIRTY, state.get(State.DIRTY) | 1 << stripe);
            return Integer.bitCount(state.get(State.DIRTY));
        }

        private int doClean() {
            int cleaned = 0;
            for (int stripe = 0; stripe < rules.stripes; stripe++) {
                if (isDirty(stripe) && missing(stripe) == 0) {
                    cleanStripe(stripe);
                    cleaned++;
                }
            }
            return cleaned;
        }

        private void cleanStripe(int stripe) {
            for (int at = 0; at < rules.chunk; at++) {
                row.load(state, stripe, at, 0);
                row.reckonSums();
                countReads(stripe, rules.dataBits);
                store(stripe, at, 1 << rules.partP | 1 << rules.partQ);
            }
            state.set(State.DIRTY, state.get(State.DIRTY) & ~(1 << stripe));
        }

        private int doFull(int stripe, int at, int value, int by) {
            for (int part = 0; part < rules.data; part++) {
                row.set(part, value + part * by & 255);
            }
            row.reckonSums();
            int there = rules.allBits & ~missing(stripe);
            store(stripe, at, there);
            return Integer.bitCount(there);
        }

        /** Does STEPS up to the first that can't be: how many. */
        int doneOf(Script steps) {
            for (int i = 0; i < steps.size(); i++) {
                int a = steps.number(i, 0);
                int b = steps.number(i, 1);
                int c = steps.number(i, 2);
                int d = steps.number(i, 3);
                if (refusal(steps.sort(i), a, b, c, d) != FINE) {
                    return i;
                }
                carryOut(steps.sort(i), a, b, c, d);
            }
            return steps.size();
        }
    }

    /** What is asked of a SHELF apart from ACTS: nothing here changes its state. */
    private static final class Questions {
        private final Shelf shelf;
        private final Rules rules;

        Questions(Shelf shelf) {
            this.shelf = shelf;
            this.rules = shelf.rules;
        }

        int costOf(int address, int what) {
            int part = rules.partOf(address);
            int missing = shelf.missing(rules.stripeOf(address));
            int way = shelf.wayOf(missing, part);
            switch (what) {
                case 0: return Integer.bitCount(shelf.readBits(way, missing, part));
                case 1: return Integer.bitCount(shelf.writeBits(missing, part));
                case 2: return way;
                default: return NONE;
            }
        }

        int toldOf(int disk, int stripe, int at, int other, int third) {
            int out = 1 << rules.partOn(other, stripe) | 1 << rules.partOn(third, stripe);
            if ((shelf.missing(stripe) & ~out) != 0) {
                return HIDDEN;
            }
            shelf.row.gather(shelf.state, stripe, at, out);
            return shelf.row.get(rules.partOn(disk, stripe));
        }

        int wrongDisk(int stripe, int at) {
            if (shelf.missing(stripe) != 0 || shelf.isDirty(stripe)) {
                return HIDDEN;
            }
            shelf.row.load(shelf.state, stripe, at, 0);
            int wrong = shelf.row.wrongPart();
            return wrong < 0 ? wrong : rules.diskOf(wrong, stripe);
        }

        int losable() {
            int bits = 0;
            for (int disk = 0; disk < rules.disks; disk++) {
                if (shelf.canLose(disk)) {
                    bits |= 1 << disk;
                }
            }
            return bits;
        }

        int losableCouples() {
            int couples = 0;
            int notWhole = shelf.notWhole();
            for (int one = 0; one < rules.disks; one++) {
                for (int other = one + 1; other < rules.disks; other++) {
                    boolean lost = shelf.stands(one, State.IS_LOST) || shelf.stands(other, State.IS_LOST);
                    if (!lost && Integer.bitCount(notWhole | 1 << one | 1 << other) <= 2) {
                        couples++;
                    }
                }
            }
            return couples;
        }

        private int stripesLeftOf(int disk) {
            return rules.stripes - shelf.state.get(State.DONE + disk);
        }

        int stripesLeft() {
            int sum = 0;
            for (int disk = 0; disk < rules.disks; disk++) {
                if (shelf.stands(disk, State.IS_REBUILT)) {
                    sum += stripesLeftOf(disk);
                }
            }
            return sum;
        }

        int readsLeft() {
            int sum = 0;
            int whole = 0;
            for (int disk = 0; disk < rules.disks; disk++) {
                if (shelf.stands(disk, State.IS_REBUILT)) {
                    sum += readsTillWhole(disk, whole);
                    whole |= 1 << disk;
                }
            }
            return sum;
        }

        /** 'whole' (bits): DISKS that count as WHOLE by then, though they are not so yet. */
        private int readsTillWhole(int disk, int whole) {
            int there = 0;
            for (int stripe = shelf.state.get(State.DONE + disk); stripe < rules.stripes; stripe++) {
                for (int other = 0; other < rules.disks; other++) {
                    if (shelf.isThere(other, stripe) || (whole >> other & 1) != 0) {
                        there++;
                    }
                }
            }
            return there * rules.chunk;
        }

        int nearestWhole(int what) {
            int nearest = NONE;
            for (int disk = 0; disk < rules.disks; disk++) {
                boolean nearer = nearest == NONE || stripesLeftOf(disk) < stripesLeftOf(nearest);
                if (shelf.stands(disk, State.IS_REBUILT) && nearer) {
                    nearest = disk;
                }
            }
            if (nearest == NONE || what == 0) {
                return nearest;
            }
            if (what == 1) {
                return stripesLeftOf(nearest);
            }
            return what == 2 ? readsTillWhole(nearest, 0) : NONE;
        }

        int fitStripes() {
            int bits = 0;
            for (int stripe = 0; stripe < rules.stripes; stripe++) {
                if (shelf.missing(stripe) == 0 && isRight(stripe)) {
                    bits |= 1 << stripe;
                }
            }
            return bits;
        }

        private boolean isRight(int stripe) {
            for (int at = 0; at < rules.chunk; at++) {
                shelf.row.load(shelf.state, stripe, at, 0);
                if (shelf.row.wrongPart() != NONE) {
                    return false;
                }
            }
            return true;
        }

        int byteIfScrubbed(int address) {
            int part = rules.partOf(address);
            int stripe = rules.stripeOf(address);
            int standing = shelf.byteRead(address);
            if (shelf.missing(stripe) != 0 || shelf.isDirty(stripe) || shelf.row.wrongPart() != part) {
                return standing;
            }
            shelf.row.mend(part);
            return shelf.row.get(part);
        }

        int sameAs(Shelf other) {
            int same = 0;
            for (int address = 0; address < rules.addresses(); address++) {
                if (shelf.byteRead(address) == other.byteRead(address)) {
                    same++;
                }
            }
            return same;
        }

        /** How long the longest row of ADDRESSES not THERE is (what 0), where it begins (1). */
        int longestHidden(int what) {
            int longest = 0;
            int begins = NONE;
            int length = 0;
            for (int address = 0; address < rules.addresses(); address++) {
                int stripe = rules.stripeOf(address);
                boolean there = shelf.isThere(rules.diskOf(rules.partOf(address), stripe), stripe);
                length = there ? 0 : length + 1;
                if (length > longest) {
                    longest = length;
                    begins = address - length + 1;
                }
            }
            return what == 0 ? longest : begins;
        }

        int votesFor(int address, int value) {
            int part = rules.partOf(address);
            int stripe = rules.stripeOf(address);
            int missing = shelf.missing(stripe);
            int agreeing = 0;
            // Couples of DISKS are couples of what they have of this STRIPE.
            for (int one = 0; one < rules.disks; one++) {
                for (int other = one + 1; other < rules.disks; other++) {
                    int out = 1 << one | 1 << other;
                    if ((missing & ~out) == 0) {
                        shelf.row.gather(shelf.state, stripe, rules.byteOf(address), out);
                        agreeing += shelf.row.get(part) == value ? 1 : 0;
                    }
                }
            }
            return agreeing;
        }
    }

    /** The LOG. It has room for those behind the latest 60 that come to light when 40 are UNDONE. */
    private static final class Log {
        private static final int TOLD = 60;
        private static final int ROOM = TOLD + History.ROOM;
        private static final int WIDTH = 3;

        private final int[] entries = new int[WIDTH * ROOM];
        private int added = 0;

        void add(int sort, int number, int cost) {
            int from = WIDTH * Math.floorMod(added, ROOM);
            entries[from] = sort;
            entries[from + 1] = number;
            entries[from + 2] = cost;
            added++;
        }

        void drop() {
            if (added > 0) {
                added--;
            }
        }

        void forget() {
            added = 0;
        }

        int length() {
            return Math.min(added, TOLD);
        }

        int tell(int i, int what) {
            if (i < 0 || i >= length() || what < 0 || what >= WIDTH) {
                return HIDDEN;
            }
            return entries[WIDTH * Math.floorMod(added - 1 - i, ROOM) + what];
        }

        void copy(Log other) {
            System.arraycopy(other.entries, 0, entries, 0, WIDTH * ROOM);
            added = other.added;
        }
    }

    /** The states ahead of the latest 40 ACTS. */
    private static final class History {
        static final int ROOM = 40;

        private final int[] rows = new int[ROOM * State.SIZE];
        private int next = 0;
        private int size = 0;

        int size() {
            return size;
        }

        void keep(State state) {
            state.saveTo(rows, next * State.SIZE);
            next = next + 1 < ROOM ? next + 1 : 0;
            size = Math.min(size + 1, ROOM);
        }

        void bringBack(State state) {
            if (size > 0) {
                next = next > 0 ? next - 1 : ROOM - 1;
                state.loadFrom(rows, next * State.SIZE);
                size--;
            }
        }

        void forget() {
            size = 0;
        }
    }

    /** The draws of YEARS: each year names one ACT and its numbers. */
    private static final class Draws {
        private final int[] numbers = new int[4];
        private long x = 0;

        void start(long seed) {
            x = seed;
        }

        int number(int i) {
            return i >= 0 && i < numbers.length ? numbers[i] : 0;
        }

        private int draw(int of) {
            x = x * 6364136223846793005L + 1442695040888963407L;
            return of < 1 ? 0 : (int) ((x >>> 33) % of);
        }

        int year(Rules rules) {
            switch (draw(12)) {
                case 5:
                    numbers[0] = draw(rules.disks);
                    return LOST;
                case 6:
                    numbers[0] = draw(rules.disks);
                    return REPLACED;
                case 7:
                case 8:
                    numbers[0] = draw(rules.disks);
                    numbers[1] = draw(rules.stripes) + 1;
                    return REBUILT;
                case 9:
                    numbers[0] = draw(rules.stripes) + 1;
                    return SCRUBBED;
                case 10:
                    numbers[0] = draw(rules.disks);
                    numbers[1] = draw(rules.stripes);
                    numbers[2] = draw(rules.chunk);
                    numbers[3] = draw(255) + 1;
                    return SPOILT;
                case 11:
                    numbers[0] = draw(rules.addresses());
                    numbers[1] = draw(256);
                    numbers[2] = draw(3);
                    return TORN;
                default:
                    numbers[0] = draw(rules.addresses());
                    numbers[1] = draw(256);
                    return WRITTEN;
            }
        }
    }
}
