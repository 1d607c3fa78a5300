import java.util.ArrayList;
import java.util.Arrays;
import java.util.List;
import java.util.NoSuchElementException;

/**
 * The document told a second time, slowly and by other means than StripeShelf: bytes are solved by
 * trying all values, products are sums of shifts, questions are answered by acting on a deep copy.
 */
final class Model {
    static final int NONE = -1;
    static final int HIDDEN = -1000000;

    /** An act that can't be, with the number of STATUS. */
    static final class Refused extends RuntimeException {
        private static final long serialVersionUID = 1L;
        final int status;

        Refused(int status) {
            super(null, null, false, false);
            this.status = status;
        }
    }

    /** All that acts change. */
    static final class World {
        int[][][] bytes;
        String[] standing;
        int[] done;
        int[] reads;
        int[] writes;
        int[] mended;
        int spares;
        int open;
        int passed;
        int next;
        boolean[] dirty;
        int[] last = {NONE, NONE, NONE};
        List<int[]> log = new ArrayList<>();

        World copy() {
            World w = new World();
            w.bytes = new int[bytes.length][][];
            for (int i = 0; i < bytes.length; i++) {
                w.bytes[i] = new int[bytes[i].length][];
                for (int j = 0; j < bytes[i].length; j++) {
                    w.bytes[i][j] = bytes[i][j].clone();
                }
            }
            w.standing = standing.clone();
            w.done = done.clone();
            w.reads = reads.clone();
            w.writes = writes.clone();
            w.mended = mended.clone();
            w.spares = spares;
            w.open = open;
            w.passed = passed;
            w.next = next;
            w.dirty = dirty.clone();
            w.last = last.clone();
            w.log = new ArrayList<>(log);
            return w;
        }

        int cost() {
            return Arrays.stream(reads).sum() + Arrays.stream(writes).sum();
        }
    }

    private String tape = "";
    private int data;
    private int stripes;
    private int chunk;
    private int fieldNumber;
    private int n;
    private World w;
    private World imageOf;
    private final List<World> past = new ArrayList<>();
    private final List<List<int[]>> scripts = new ArrayList<>();
    private final int[] refused = new int[4];
    private int lastWay;

    // ---- texts

    int feed(int a, int b, int c, int d, int e) {
        StringBuilder more = new StringBuilder(tape);
        for (int word : new int[] {a, b, c, d, e}) {
            for (byte sign : java.nio.ByteBuffer.allocate(4).putInt(word).array()) {
                if (sign != 0) {
                    more.append((char) (sign & 255));
                }
            }
        }
        if (more.length() > 280) {
            return NONE;
        }
        tape = more.toString();
        return tape.length();
    }

    boolean end(int k) {
        if (k < 0 || k > tape.length()) {
            return false;
        }
        tape = tape.substring(0, k);
        return true;
    }

    /** A sign, or a number ('#') with its digits, and where it begins; '$' is the end, '?' a sign of no use. */
    private static final class Token {
        final char sign;
        final String digits;
        final int begin;

        Token(char sign, String digits, int begin) {
            this.sign = sign;
            this.digits = digits;
            this.begin = begin;
        }
    }

    private static final class Wrong extends Exception {
        private static final long serialVersionUID = 1L;
        final int at;

        Wrong(int at) {
            this.at = at;
        }
    }

    private static List<Token> tokens(String text) {
        List<Token> all = new ArrayList<>();
        java.util.regex.Matcher m = java.util.regex.Pattern.compile("[0-9]+|[^ ]", java.util.regex.Pattern.DOTALL).matcher(text);
        while (m.find()) {
            char sign = m.group().charAt(0);
            boolean number = sign >= '0' && sign <= '9';
            boolean useless = sign == '#' || sign == '$';
            all.add(new Token(number ? '#' : useless ? '?' : sign, number ? m.group() : "", m.start()));
        }
        all.add(new Token('$', "", text.length()));
        return all;
    }

    private static int number(Token t, int low, int high) throws Wrong {
        if (t.sign != '#') {
            throw new Wrong(t.begin);
        }
        if (t.digits.length() > 3) {
            throw new Wrong(t.begin + 3);
        }
        int value = Integer.parseInt(t.digits);
        if (value < low || value > high) {
            throw new Wrong(t.begin + t.digits.length() - 1);
        }
        return value;
    }

    /** Clauses as {0, d, t, c, f, k} and {1, a, x}. */
    private static List<int[]> shelfOf(String text) throws Wrong {
        List<Token> all = tokens(text);
        List<int[]> clauses = new ArrayList<>();
        int i = 0;
        while (true) {
            Token t = all.get(i++);
            boolean s = t.sign == 's';
            boolean had = clauses.stream().anyMatch(c -> c[0] == 0);
            long vs = clauses.stream().filter(c -> c[0] == 1).count();
            if (!s && t.sign != 'v' || s && had || !s && vs == 16) {
                throw new Wrong(t.begin);
            }
            int[] clause = s ? new int[] {0, 3, 4, 2, 0, 1} : new int[] {1, 0, 1};
            int[][] bounds = s ? new int[][] {{2, 6}, {1, 12}, {1, 4}, {0, 3}, {0, 9}} : new int[][] {{0, 287}, {0, 255}};
            StringBuilder letters = new StringBuilder(s ? "dtcfk" : "ax");
            while (all.get(i).sign != ';' && all.get(i).sign != '$') {
                int item = letters.indexOf(String.valueOf(all.get(i).sign));
                if (item < 0) {
                    throw new Wrong(all.get(i).begin);
                }
                letters.setCharAt(item, '\t');
                clause[item + 1] = number(all.get(i + 1), bounds[item][0], bounds[item][1]);
                i += 2;
            }
            clauses.add(clause);
            if (all.get(i).sign == '$') {
                return clauses;
            }
            i++;
        }
    }

    private static List<int[]> scriptOf(String text) throws Wrong {
        String letters = "wlnrspzyf";
        int[] many = {2, 1, 1, 2, 1, 4, 3, 0, 4};
        List<Token> all = tokens(text);
        List<int[]> steps = new ArrayList<>();
        int i = 0;
        while (true) {
            int sort = letters.indexOf(all.get(i).sign);
            if (sort < 0) {
                throw new Wrong(all.get(i).begin);
            }
            i++;
            int[] step = new int[1 + many[sort]];
            step[0] = sort;
            for (int j = 1; j <= many[sort]; j++) {
                if (j > 1 && all.get(i++).sign != ',') {
                    throw new Wrong(all.get(i - 1).begin);
                }
                step[j] = number(all.get(i++), 0, 999);
            }
            steps.add(step);
            Token t = all.get(i++);
            if (t.sign == '$') {
                return steps;
            }
            if (t.sign != ';' || steps.size() == 16) {
                throw new Wrong(t.begin);
            }
        }
    }

    int fault(int sort) {
        try {
            if (sort == 0) {
                shelfOf(tape);
            } else if (sort == 1) {
                scriptOf(tape);
            } else {
                return -2;
            }
            return NONE;
        } catch (Wrong e) {
            return e.at;
        }
    }

    int text(int sort) {
        try {
            if (sort == 0) {
                start(shelfOf(tape));
                tape = "";
                return data * stripes * chunk;
            }
            if (sort == 1 && scripts.size() < 4) {
                scripts.add(scriptOf(tape));
                tape = "";
                return scripts.size() - 1;
            }
            return NONE;
        } catch (Wrong e) {
            return NONE;
        }
    }

    private void start(List<int[]> clauses) {
        int[] s = {0, 3, 4, 2, 0, 1};
        for (int[] c : clauses) {
            if (c[0] == 0) {
                s = c;
            }
        }
        data = s[1];
        stripes = s[2];
        chunk = s[3];
        fieldNumber = s[4];
        n = data + 2;
        w = new World();
        w.spares = s[5];
        w.bytes = new int[n][stripes][chunk];
        w.standing = new String[n];
        Arrays.fill(w.standing, "whole");
        w.done = new int[n];
        Arrays.fill(w.done, stripes);
        w.reads = new int[n];
        w.writes = new int[n];
        w.mended = new int[n];
        w.dirty = new boolean[stripes];
        for (int[] c : clauses) {
            if (c[0] == 1 && c[1] < addresses()) {
                w.bytes[place(c[1], 0)][place(c[1], 1)][place(c[1], 2)] = c[2];
            }
        }
        for (int t = 0; t < stripes; t++) {
            for (int at = 0; at < chunk; at++) {
                putSums(t, at);
            }
        }
        imageOf = null;
        past.clear();
    }

    private void putSums(int t, int at) {
        int p = 0;
        int q = 0;
        for (int i = 0; i < data; i++) {
            int b = w.bytes[diskOf(t, i)][t][at];
            p ^= b;
            q ^= mul(b, two(i));
        }
        w.bytes[diskOf(t, data)][t][at] = p;
        w.bytes[diskOf(t, data + 1)][t][at] = q;
    }

    // ---- field and places

    private int mul(int a, int b) {
        int polynomial = new int[] {285, 299, 301, 333}[fieldNumber];
        int product = 0;
        for (int i = 0; i < 8; i++) {
            if ((b >> i & 1) != 0) {
                product ^= a << i;
            }
        }
        for (int bit = 15; bit >= 8; bit--) {
            if ((product >> bit & 1) != 0) {
                product ^= polynomial << bit - 8;
            }
        }
        return product;
    }

    private int two(int k) {
        int p = 1;
        for (int i = 0; i < k; i++) {
            p = mul(p, 2);
        }
        return p;
    }

    private static boolean isByte(int v) {
        return v >= 0 && v <= 255;
    }

    private int addresses() {
        return w == null ? 0 : data * stripes * chunk;
    }

    private boolean isAddress(int a) {
        return a >= 0 && a < addresses();
    }

    private boolean isDisk(int d) {
        return w != null && d >= 0 && d < n;
    }

    private boolean isStripe(int t) {
        return w != null && t >= 0 && t < stripes;
    }

    private boolean isAt(int at) {
        return w != null && at >= 0 && at < chunk;
    }

    /** In the order PARTS, P, Q; walks round the disks from P on. */
    private int diskOf(int t, int part) {
        int disk = n - 1 - t % n;
        int steps = part == data ? 0 : part == data + 1 ? 1 : part + 2;
        for (int i = 0; i < steps; i++) {
            disk = disk == n - 1 ? 0 : disk + 1;
        }
        return disk;
    }

    int rule(int what) {
        if (w == null || what < 0 || what > 6) {
            return NONE;
        }
        return new int[] {data, stripes, chunk, fieldNumber, w.spares, n, addresses()}[what];
    }

    int times(int a, int b) {
        return w != null && isByte(a) && isByte(b) ? mul(a, b) : NONE;
    }

    int over(int a, int b) {
        if (w == null || !isByte(a) || !isByte(b)) {
            return NONE;
        }
        for (int x = 0; b != 0 && x < 256; x++) {
            if (mul(x, b) == a) {
                return x;
            }
        }
        return NONE;
    }

    int power(int k) {
        return w != null && k >= 0 && k <= 999 ? two(k) : NONE;
    }

    int logOf(int a) {
        for (int k = 0; w != null && k < 255; k++) {
            if (two(k) == a) {
                return k;
            }
        }
        return NONE;
    }

    int place(int address, int what) {
        if (!isAddress(address) || what < 0 || what > 3) {
            return NONE;
        }
        int t = address / (chunk * data);
        int i = address % (chunk * data) / chunk;
        return new int[] {diskOf(t, i), t, address % chunk, i}[what];
    }

    int part(int disk, int t) {
        for (int i = 0; isStripe(t) && i < n; i++) {
            if (diskOf(t, i) == disk) {
                return i;
            }
        }
        return NONE;
    }

    // ---- what is there and what is solved

    private boolean there(int disk, int t) {
        switch (w.standing[disk]) {
            case "whole": return true;
            case "lost": return false;
            default: return t < w.done[disk];
        }
    }

    private List<Integer> hidden(int t) {
        List<Integer> parts = new ArrayList<>();
        for (int i = 0; i < n; i++) {
            if (!there(diskOf(t, i), t)) {
                parts.add(i);
            }
        }
        return parts;
    }

    /** The byte of a part, those in 'out' unknown: all values are tried against the sums that tell them. */
    private int solved(int t, int at, int wanted, List<Integer> out) {
        if (!out.contains(wanted)) {
            return w.bytes[diskOf(t, wanted)][t][at];
        }
        int p = 0;
        int q = 0;
        for (int i = 0; i < n; i++) {
            if (!out.contains(i)) {
                int b = w.bytes[diskOf(t, i)][t][at];
                p ^= inP(i) * b;
                q ^= mul(inQ(i), b);
            }
        }
        boolean byQ = out.size() == 2 || out.get(0) == data + 1;
        boolean byP = out.size() == 2 || out.get(0) != data + 1;
        int one = out.get(0);
        for (int x = 0; x < 256; x++) {
            for (int y = 0; y < (out.size() == 2 ? 256 : 1); y++) {
                int other = out.size() == 2 ? out.get(1) : one;
                int sumP = p ^ inP(one) * x ^ inP(other) * y;
                if (byP && sumP != 0) {
                    continue;
                }
                int sumQ = q ^ mul(inQ(one), x) ^ mul(inQ(other), y);
                if (!byQ || sumQ == 0) {
                    return wanted == one ? x : y;
                }
            }
        }
        throw new IllegalStateException("no solution");
    }

    private int inP(int part) {
        return part == data + 1 ? 0 : 1;
    }

    private int inQ(int part) {
        return part == data ? 0 : part == data + 1 ? 1 : two(part);
    }

    private int readAt(int address) {
        int t = place(address, 1);
        return solved(t, place(address, 2), place(address, 3), hidden(t));
    }

    int read(int address) {
        if (!isAddress(address)) {
            throw new NoSuchElementException();
        }
        return readAt(address);
    }

    int cell(int disk, int t, int at) {
        if (!isDisk(disk) || !isStripe(t) || !isAt(at)) {
            return NONE;
        }
        return there(disk, t) ? w.bytes[disk][t][at] : HIDDEN;
    }

    int disk(int disk, int what) {
        if (!isDisk(disk) || what < 0 || what > 4) {
            return NONE;
        }
        int standing = Arrays.asList("whole", "lost", "rebuilding").indexOf(w.standing[disk]);
        return new int[] {standing, w.done[disk], w.reads[disk], w.writes[disk], w.mended[disk]}[what];
    }

    // ---- acts

    private static void need(boolean holds, int status) {
        if (!holds) {
            throw new Refused(status);
        }
    }

    private int notWhole() {
        int many = 0;
        for (int d = 0; d < n; d++) {
            many += w.standing[d].equals("whole") ? 0 : 1;
        }
        return many;
    }

    /** Does one act; Refused if it can't be, and nothing is changed then. */
    private int act(int sort, int... args) {
        int[] a = Arrays.copyOf(args, 4);
        check(sort, a);
        int before = w.cost();
        int answer;
        switch (sort) {
            case 0: answer = written(a[0], a[1]); break;
            case 1: answer = lost(a[0]); break;
            case 2: answer = replaced(a[0]); break;
            case 3: answer = rebuilt(a[0], a[1]); break;
            case 4: answer = scrubbed(a[0]); break;
            case 5: answer = w.bytes[a[0]][a[1]][a[2]] ^= a[3]; break;
            case 6: answer = torn(a[0], a[1], a[2]); break;
            case 7: answer = cleaned(); break;
            default: answer = filled(a[0], a[1], a[2], a[3]); break;
        }
        w.log.add(new int[] {sort, sort == 7 ? answer : a[0], w.cost() - before});
        return answer;
    }

    private void check(int sort, int[] a) {
        need(w != null, 0);
        if (sort == 0 || sort == 6) {
            need(isAddress(a[0]), 0);
            need(isByte(a[1]), 1);
        }
        if (sort == 1) {
            need(isDisk(a[0]), 0);
            need(!w.standing[a[0]].equals("lost"), 2);
            need(!w.standing[a[0]].equals("whole") || notWhole() < 2, 3);
        }
        if (sort == 2) {
            need(isDisk(a[0]), 0);
            need(w.standing[a[0]].equals("lost"), 2);
            need(w.spares > 0, 3);
        }
        if (sort == 3) {
            need(isDisk(a[0]), 0);
            need(a[1] >= 1 && a[1] <= 12, 1);
            need(w.standing[a[0]].equals("rebuilding"), 2);
        }
        if (sort == 4) {
            need(a[0] >= 1 && a[0] <= 12, 1);
        }
        if (sort == 5) {
            need(isDisk(a[0]) && isStripe(a[1]) && isAt(a[2]), 0);
            need(a[3] >= 1 && a[3] <= 255, 1);
            need(there(a[0], a[1]), 2);
        }
        if (sort == 6) {
            need(a[2] >= 0 && a[2] <= 2, 1);
            int t = place(a[0], 1);
            need(there(place(a[0], 0), t) && there(diskOf(t, data), t) && there(diskOf(t, data + 1), t), 2);
        }
        if (sort == 7) {
            need(!cleanable().isEmpty(), 2);
        }
        if (sort == 8) {
            need(isStripe(a[0]) && isAt(a[1]), 0);
            need(isByte(a[2]) && isByte(a[3]), 1);
        }
    }

    private void readOne(int t, int part) {
        w.reads[diskOf(t, part)]++;
    }

    private void writeOne(int t, int part, int at, int value) {
        w.writes[diskOf(t, part)]++;
        w.bytes[diskOf(t, part)][t][at] = value;
    }

    private int written(int address, int value) {
        int t = place(address, 1);
        int at = place(address, 2);
        int own = place(address, 3);
        List<Integer> gone = hidden(t);
        int ahead = readAt(address);
        List<Integer> sums = new ArrayList<>(List.of(data, data + 1));
        sums.removeAll(gone);
        List<List<Integer>> readsOf = new ArrayList<>();
        List<Integer> touched = new ArrayList<>(sums);
        if (!gone.contains(own)) {
            touched.add(own);
        }
        readsOf.add(gone.contains(own) ? null : touched);
        List<Integer> others = new ArrayList<>();
        for (int i = 0; i < data; i++) {
            if (i != own) {
                others.add(i);
            }
        }
        boolean othersThere = others.stream().noneMatch(gone::contains);
        readsOf.add(othersThere ? others : null);
        List<Integer> standing = new ArrayList<>();
        for (int i = 0; i < n; i++) {
            if (!gone.contains(i)) {
                standing.add(i);
            }
        }
        readsOf.add(gone.contains(own) && !othersThere ? standing : null);
        int way = NONE;
        for (int i = 0; i < 3; i++) {
            if (readsOf.get(i) != null && (way == NONE || readsOf.get(i).size() < readsOf.get(way).size())) {
                way = i;
            }
        }
        lastWay = way;
        int[] values = new int[n];
        for (int i = 0; i < data; i++) {
            values[i] = i == own ? value : solved(t, at, i, gone);
        }
        int change = ahead ^ value;
        int p = 0;
        int q = 0;
        for (int i = 0; i < data; i++) {
            p ^= values[i];
            q ^= mul(values[i], two(i));
        }
        if (way == 0) {
            p = w.bytes[diskOf(t, data)][t][at] ^ change;
            q = w.bytes[diskOf(t, data + 1)][t][at] ^ mul(change, two(own));
        }
        values[data] = p;
        values[data + 1] = q;
        for (int i : readsOf.get(way)) {
            readOne(t, i);
        }
        for (int i : touched) {
            writeOne(t, i, at, values[i]);
        }
        return ahead;
    }

    private int lost(int disk) {
        w.standing[disk] = "lost";
        w.done[disk] = 0;
        for (int[] c : w.bytes[disk]) {
            Arrays.fill(c, 77);
        }
        return notWhole();
    }

    private int replaced(int disk) {
        w.standing[disk] = "rebuilding";
        return --w.spares;
    }

    private int rebuilt(int disk, int many) {
        for (int k = 0; k < many && w.standing[disk].equals("rebuilding"); k++) {
            int t = w.done[disk];
            int own = part(disk, t);
            List<Integer> gone = hidden(t);
            for (int at = 0; at < chunk; at++) {
                for (int i = 0; i < n; i++) {
                    if (!gone.contains(i)) {
                        readOne(t, i);
                    }
                }
                writeOne(t, own, at, solved(t, at, own, gone));
            }
            w.done[disk]++;
            if (w.done[disk] == stripes) {
                w.standing[disk] = "whole";
            }
        }
        return w.done[disk];
    }

    /** {part, what is to be added}; part NONE: right, -2: open. */
    private int[] wrongAt(int t, int at) {
        int u = 0;
        int v = 0;
        for (int i = 0; i < n; i++) {
            int b = w.bytes[diskOf(t, i)][t][at];
            u ^= inP(i) * b;
            v ^= mul(inQ(i), b);
        }
        if (u == 0 && v == 0) {
            return new int[] {NONE, 0};
        }
        if (v == 0) {
            return new int[] {data, u};
        }
        if (u == 0) {
            return new int[] {data + 1, v};
        }
        for (int i = 0; i < data; i++) {
            if (mul(u, two(i)) == v) {
                return new int[] {i, u};
            }
        }
        return new int[] {-2, 0};
    }

    private int scrubbed(int many) {
        int mended = 0;
        for (int k = 0; k < many; k++) {
            int t = w.next;
            w.next = (t + 1) % stripes;
            if (w.dirty[t] || !hidden(t).isEmpty()) {
                w.passed++;
                continue;
            }
            for (int at = 0; at < chunk; at++) {
                for (int i = 0; i < n; i++) {
                    readOne(t, i);
                }
                int[] wrong = wrongAt(t, at);
                if (wrong[0] == -2) {
                    w.open++;
                } else if (wrong[0] != NONE) {
                    int d = diskOf(t, wrong[0]);
                    writeOne(t, wrong[0], at, w.bytes[d][t][at] ^ wrong[1]);
                    w.mended[d]++;
                    w.last = new int[] {d, t, at};
                    mended++;
                }
            }
        }
        return mended;
    }

    private int torn(int address, int value, int how) {
        int t = place(address, 1);
        int at = place(address, 2);
        int own = place(address, 3);
        int change = w.bytes[place(address, 0)][t][at] ^ value;
        int p = w.bytes[diskOf(t, data)][t][at];
        readOne(t, own);
        readOne(t, data);
        readOne(t, data + 1);
        if (how >= 1) {
            writeOne(t, own, at, value);
        }
        if (how == 2) {
            writeOne(t, data, at, p ^ change);
        }
        w.dirty[t] = true;
        int many = 0;
        for (boolean d : w.dirty) {
            many += d ? 1 : 0;
        }
        return many;
    }

    private List<Integer> cleanable() {
        List<Integer> all = new ArrayList<>();
        for (int t = 0; t < stripes; t++) {
            if (w.dirty[t] && hidden(t).isEmpty()) {
                all.add(t);
            }
        }
        return all;
    }

    private int cleaned() {
        List<Integer> all = cleanable();
        for (int t : all) {
            for (int at = 0; at < chunk; at++) {
                for (int i = 0; i < data; i++) {
                    readOne(t, i);
                }
                putSums(t, at);
                w.writes[diskOf(t, data)]++;
                w.writes[diskOf(t, data + 1)]++;
            }
            w.dirty[t] = false;
        }
        return all.size();
    }

    private int filled(int t, int at, int value, int by) {
        int p = 0;
        int q = 0;
        int many = 0;
        int[] values = new int[n];
        for (int i = 0; i < data; i++) {
            values[i] = (value + i * by) % 256;
            p ^= values[i];
            q ^= mul(values[i], two(i));
        }
        values[data] = p;
        values[data + 1] = q;
        for (int i = 0; i < n; i++) {
            if (there(diskOf(t, i), t)) {
                writeOne(t, i, at, values[i]);
                many++;
            }
        }
        return many;
    }

    /** An act with its way back. */
    private int kept(int sort, int... args) {
        World before = w == null ? null : w.copy();
        int answer = act(sort, args);
        past.add(before);
        if (past.size() > 40) {
            past.remove(0);
        }
        return answer;
    }

    private int asked(int sort, int... args) {
        try {
            return kept(sort, args);
        } catch (Refused r) {
            refused[r.status]++;
            return NONE;
        }
    }

    int write(int address, int value) {
        return asked(0, address, value);
    }

    int lose(int disk) {
        return asked(1, disk);
    }

    int replace(int disk) {
        return asked(2, disk);
    }

    int rebuild(int disk, int many) {
        return asked(3, disk, many);
    }

    int scrub(int many) {
        return asked(4, many);
    }

    int spoil(int disk, int t, int at, int x) {
        return asked(5, disk, t, at, x);
    }

    int tear(int address, int value, int how) {
        return asked(6, address, value, how);
    }

    int clean() {
        return asked(7);
    }

    int full(int t, int at, int value, int by) {
        return asked(8, t, at, value, by);
    }

    private java.math.BigInteger x;

    private int draw(int of) {
        java.math.BigInteger two64 = java.math.BigInteger.ONE.shiftLeft(64);
        x = x.multiply(new java.math.BigInteger("6364136223846793005")).add(new java.math.BigInteger("1442695040888963407")).mod(two64);
        return x.shiftRight(33).mod(java.math.BigInteger.valueOf(of)).intValue();
    }

    private void tried(int sort, int... args) {
        try {
            kept(sort, args);
        } catch (Refused r) {
            return;
        }
    }

    int years(int many, long seed) {
        if (w == null || many < 1 || many > 40) {
            return NONE;
        }
        x = java.math.BigInteger.valueOf(seed).mod(java.math.BigInteger.ONE.shiftLeft(64));
        for (int k = 0; k < many; k++) {
            int d = draw(12);
            if (d <= 4) {
                int a = draw(addresses());
                tried(0, a, draw(256));
            } else if (d == 5 || d == 6) {
                tried(d - 4, draw(n));
            } else if (d <= 8) {
                int disk = draw(n);
                tried(3, disk, draw(stripes) + 1);
            } else if (d == 9) {
                tried(4, draw(stripes) + 1);
            } else if (d == 10) {
                int disk = draw(n);
                int t = draw(stripes);
                int at = draw(chunk);
                tried(5, disk, t, at, draw(255) + 1);
            } else {
                int a = draw(addresses());
                int v = draw(256);
                tried(6, a, v, draw(3));
                tried(7);
            }
        }
        return w.cost();
    }

    int status(int what) {
        return what >= 0 && what < 4 ? refused[what] : NONE;
    }

    int undo() {
        if (past.isEmpty()) {
            return NONE;
        }
        w = past.remove(past.size() - 1);
        return past.size();
    }

    private List<int[]> shownLog() {
        if (w == null) {
            return List.of();
        }
        return w.log.subList(Math.max(0, w.log.size() - 60), w.log.size());
    }

    int log(int i, int what) {
        List<int[]> l = shownLog();
        return i >= 0 && i < l.size() && what >= 0 && what < 3 ? l.get(l.size() - 1 - i)[what] : HIDDEN;
    }

    // ---- questions, by acting on a copy

    int cost(int address, int what) {
        if (!isAddress(address) || what < 0 || what > 2) {
            return NONE;
        }
        World here = w;
        w = here.copy();
        act(0, address, 0);
        int reads = Arrays.stream(w.reads).sum() - Arrays.stream(here.reads).sum();
        int writes = Arrays.stream(w.writes).sum() - Arrays.stream(here.writes).sum();
        w = here;
        return new int[] {reads, writes, lastWay}[what];
    }

    /** What a couple (or one disk, twice) left out tells of a part; HIDDEN if another one is not there. */
    private int toldBy(int wanted, int t, int at, int one, int other) {
        List<Integer> out = new ArrayList<>(new java.util.TreeSet<>(List.of(part(one, t), part(other, t))));
        List<Integer> gone = hidden(t);
        gone.removeAll(out);
        return gone.isEmpty() ? solved(t, at, wanted, out) : HIDDEN;
    }

    int told(int disk, int t, int at, int other, int third) {
        if (!isDisk(disk) || !isStripe(t) || !isAt(at) || !isDisk(other) || !isDisk(third)) {
            return NONE;
        }
        return disk == other || disk == third ? toldBy(part(disk, t), t, at, other, third) : NONE;
    }

    int who(int t, int at) {
        if (!isStripe(t) || !isAt(at) || w.dirty[t] || !hidden(t).isEmpty()) {
            return HIDDEN;
        }
        int wrong = wrongAt(t, at)[0];
        return wrong < 0 ? wrong : diskOf(t, wrong);
    }

    private boolean can(int sort, int... args) {
        try {
            act(sort, args);
            return true;
        } catch (Refused r) {
            return false;
        }
    }

    int more() {
        if (w == null) {
            return NONE;
        }
        int bits = 0;
        World here = w;
        for (int d = 0; d < n; d++) {
            w = here.copy();
            bits += can(1, d) ? 1 << d : 0;
        }
        w = here;
        return bits;
    }

    int left(int what) {
        if (w == null || what < 0 || what > 1) {
            return NONE;
        }
        World here = w;
        w = here.copy();
        int done = 0;
        for (int d = 0; d < n; d++) {
            while (can(3, d, 1)) {
                done++;
            }
        }
        int reads = Arrays.stream(w.reads).sum() - Arrays.stream(here.reads).sum();
        w = here;
        return what == 0 ? done : reads;
    }

    int fit() {
        if (w == null) {
            return NONE;
        }
        int bits = 0;
        for (int t = 0; t < stripes; t++) {
            boolean right = hidden(t).isEmpty();
            for (int at = 0; at < chunk && right; at++) {
                right = wrongAt(t, at)[0] == NONE;
            }
            bits |= right ? 1 << t : 0;
        }
        return bits;
    }

    int checked(int address) {
        if (!isAddress(address)) {
            return NONE;
        }
        World here = w;
        w = here.copy();
        w.next = place(address, 1);
        act(4, 1);
        int value = readAt(address);
        w = here;
        return value;
    }

    int equal() {
        if (imageOf == null) {
            return NONE;
        }
        int same = 0;
        World here = w;
        for (int a = 0; a < addresses(); a++) {
            int value = readAt(a);
            w = imageOf;
            same += readAt(a) == value ? 1 : 0;
            w = here;
        }
        return same;
    }

    int span(int what) {
        if (w == null || what < 0 || what > 1) {
            return NONE;
        }
        StringBuilder all = new StringBuilder();
        for (int a = 0; a < addresses(); a++) {
            all.append(there(place(a, 0), place(a, 1)) ? '.' : 'x');
        }
        for (int length = addresses(); length > 0; length--) {
            int at = all.indexOf("x".repeat(length));
            if (at >= 0) {
                return what == 0 ? length : at;
            }
        }
        return what == 0 ? 0 : NONE;
    }

    int risk() {
        if (w == null) {
            return NONE;
        }
        int many = 0;
        World here = w;
        for (int a = 0; a < n; a++) {
            for (int b = 0; b < a; b++) {
                w = here.copy();
                many += can(1, a) && can(1, b) ? 1 : 0;
            }
        }
        w = here;
        return many;
    }

    int first(int what) {
        if (w == null || what < 0 || what > 2) {
            return NONE;
        }
        World here = w;
        int[] best = {NONE, Integer.MAX_VALUE, NONE};
        for (int d = n - 1; d >= 0; d--) {
            w = here.copy();
            int done = 0;
            while (can(3, d, 1)) {
                done++;
            }
            if (done > 0 && done <= best[1]) {
                best = new int[] {d, done, Arrays.stream(w.reads).sum() - Arrays.stream(here.reads).sum()};
            }
        }
        w = here;
        return best[0] == NONE ? NONE : best[what];
    }

    int votes(int address, int value) {
        if (!isAddress(address) || !isByte(value)) {
            return NONE;
        }
        int many = 0;
        for (int a = 0; a < n; a++) {
            for (int b = 0; b < a; b++) {
                many += toldBy(place(address, 3), place(address, 1), place(address, 2), a, b) == value ? 1 : 0;
            }
        }
        return many;
    }

    // ---- scripts

    int step(int script, int i, int what) {
        if (script < 0 || script >= scripts.size() || i < 0 || i >= scripts.get(script).size() || what < 0 || what > 4) {
            return HIDDEN;
        }
        int[] s = scripts.get(script).get(i);
        return what < s.length ? s[what] : NONE;
    }

    int run(int script, int what) {
        if (script < 0 || script >= scripts.size() || w == null || what < 0 || what > 1) {
            return HIDDEN;
        }
        World here = w;
        w = here.copy();
        int done = 0;
        for (int[] s : scripts.get(script)) {
            if (!can(s[0], Arrays.copyOfRange(s, 1, s.length))) {
                break;
            }
            done++;
        }
        int cost = w.cost() - here.cost();
        w = here;
        if (what == 1) {
            return cost;
        }
        return done == scripts.get(script).size() ? NONE : done;
    }

    int perform(int script) {
        if (script < 0 || script >= scripts.size() || w == null) {
            return NONE;
        }
        int done = 0;
        for (int[] s : scripts.get(script)) {
            try {
                kept(s[0], Arrays.copyOfRange(s, 1, s.length));
            } catch (Refused r) {
                return done;
            }
            done++;
        }
        return done;
    }

    int most(int what) {
        if (w == null || what < 0 || what > 10) {
            return HIDDEN;
        }
        int dirty = 0;
        for (int t = 0; t < stripes; t++) {
            dirty += w.dirty[t] ? 1 << t : 0;
        }
        int bad = 0;
        for (int d = 0; d < n; d++) {
            bad += w.standing[d].equals("whole") ? 0 : 1 << d;
        }
        return new int[] {Arrays.stream(w.reads).sum(), Arrays.stream(w.writes).sum(), Arrays.stream(w.mended).sum(),
            w.open, w.passed, w.next, dirty, bad, w.last[0], w.last[1], w.last[2]}[what];
    }

    int image() {
        if (w == null) {
            return NONE;
        }
        imageOf = w.copy();
        return w.cost();
    }

    int back() {
        if (imageOf == null) {
            return NONE;
        }
        w = imageOf.copy();
        past.clear();
        return w.cost();
    }

    int count(int what) {
        if (what < 0 || what > 4) {
            return HIDDEN;
        }
        return new int[] {addresses(), scripts.size(), tape.length(), shownLog().size(), past.size()}[what];
    }
}
