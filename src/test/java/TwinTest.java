import java.util.NoSuchElementException;
import java.util.Random;
import java.util.function.IntSupplier;

/** Long runs of drawn calls, right and wrong ones, on a StripeShelf and on the Model: all answers are alike. */
public final class TwinTest {
    private static final int[] FAR = {Integer.MIN_VALUE, Integer.MAX_VALUE, -1000000, -2, 1000, 65536, Integer.MIN_VALUE + 1};
    /** No object is used for more than 512 calls; the survey at the end of a run takes some 110. */
    private static final int MOST_CALLS = 512;
    private static final int MOST_DRAWN = 380;
    private final Check check = new Check();
    private final Random random;
    private StripeShelf real = new StripeShelf();
    private Model model = new Model();
    private int calls = 0;
    private final StringBuilder story = new StringBuilder();
    private boolean wrong = false;

    private TwinTest(long seed) {
        random = new Random(seed);
    }

    private int pick(int bound) {
        return random.nextInt(bound);
    }

    /** Mostly 0 .. most, at times just outside, seldom far outside. */
    private int near(int most) {
        int d = pick(60);
        if (d == 0) {
            return FAR[pick(FAR.length)];
        }
        return d <= 2 ? (d == 1 ? -1 : most + 1) : pick(Math.max(0, most) + 1);
    }

    private void same(String call, IntSupplier got, IntSupplier want) {
        int a = answer(got);
        int b = answer(want);
        calls++;
        story.append("  ").append(call).append(" -> ").append(a).append('\n');
        if (a != b && !wrong) {
            wrong = true;
            System.out.println(story);
        }
        check.due(call, a, b);
    }

    private static int answer(IntSupplier call) {
        try {
            return call.getAsInt();
        } catch (NoSuchElementException e) {
            return -777777777;
        }
    }

    // ---- texts, sound and broken

    private String number(int most) {
        int value = pick(12) == 0 ? pick(1200) : pick(most + 1);
        String text = Integer.toString(value);
        return pick(20) == 0 ? "0".repeat(pick(3)) + text : text;
    }

    private String items(String letters, int[] most) {
        StringBuilder text = new StringBuilder();
        for (int i = 0; i < letters.length(); i++) {
            if (pick(4) != 0) {
                text.append(letters.charAt(i)).append(Math.max(number(most[i]).length(), 1) > 3 ? "1" : number(most[i]));
            }
        }
        return text.toString();
    }

    private String shelfText() {
        StringBuilder text = new StringBuilder();
        int clauses = 1 + pick(5);
        int s = pick(clauses + 1);
        for (int i = 0; i < clauses; i++) {
            text.append(i > 0 ? ";" : "");
            if (i == s) {
                text.append("sd").append(2 + pick(5)).append("t").append(1 + pick(pick(2) == 0 ? 3 : 12));
                text.append("c").append(1 + pick(4)).append("f").append(pick(4)).append("k").append(pick(10));
            } else {
                text.append('v').append(items("ax", new int[] {60, 255}));
            }
        }
        return text.toString();
    }

    private String scriptText() {
        String letters = "wlnrspzyf";
        int[] many = {2, 1, 1, 2, 1, 4, 3, 0, 4};
        int[][] most = {{20, 255}, {6}, {6}, {6, 4}, {4}, {6, 2, 1, 255}, {20, 255, 2}, {}, {3, 1, 255, 255}};
        StringBuilder text = new StringBuilder();
        int steps = 1 + pick(pick(8) == 0 ? 18 : 5);
        for (int i = 0; i < steps; i++) {
            int sort = pick(9);
            text.append(i > 0 ? ";" : "").append(letters.charAt(sort));
            for (int j = 0; j < many[sort]; j++) {
                text.append(j > 0 ? "," : "").append(number(most[sort][j]));
            }
        }
        return text.toString();
    }

    private String broken(String text) {
        StringBuilder t = new StringBuilder(text);
        String signs = "sv;,dtcfkaxwlnrpzy0123456789  #$%" + (char) 200 + (char) 255;
        for (int k = pick(3); k > 0 && t.length() > 0; k--) {
            int at = pick(t.length() + 1);
            int how = pick(3);
            if (how == 0 && at < t.length()) {
                t.deleteCharAt(at);
            } else if (how == 1 && at < t.length()) {
                t.setCharAt(at, signs.charAt(pick(signs.length())));
            } else {
                t.insert(at, signs.charAt(pick(signs.length())));
            }
        }
        for (int k = pick(4); k > 0; k--) {
            t.insert(pick(t.length() + 1), ' ');
        }
        return t.toString();
    }

    private void feedText(String text) {
        if (pick(10) != 0) {
            int cut = pick(20) == 0 ? near(20) : 0;
            same("end(" + cut + ")", () -> real.end(cut) ? 1 : 0, () -> model.end(cut) ? 1 : 0);
        }
        for (int[] f : Check.words(text)) {
            same("feed(" + f[0] + ", " + f[1] + ", " + f[2] + ", " + f[3] + ", " + f[4] + ")",
                () -> real.feed(f[0], f[1], f[2], f[3], f[4]), () -> model.feed(f[0], f[1], f[2], f[3], f[4]));
        }
        for (int sort = 0; sort < 2; sort++) {
            int s = sort;
            same("fault(" + s + ") of '" + text + "'", () -> real.fault(s), () -> model.fault(s));
        }
    }

    private void takeText(int sort, String text) {
        feedText(text);
        same("text(" + sort + ")", () -> real.text(sort), () -> model.text(sort));
    }

    // ---- calls

    private int address() {
        return near(model.count(0) - 1);
    }

    private int disk() {
        return near(model.rule(5) - 1);
    }

    private int stripe() {
        return near(model.rule(1) - 1);
    }

    private int at() {
        return near(model.rule(2) - 1);
    }

    private void one(String name, int a, java.util.function.IntUnaryOperator got, java.util.function.IntUnaryOperator want) {
        same(name + "(" + a + ")", () -> got.applyAsInt(a), () -> want.applyAsInt(a));
    }

    private void two(String name, int a, int b, java.util.function.IntBinaryOperator got, java.util.function.IntBinaryOperator want) {
        same(name + "(" + a + ", " + b + ")", () -> got.applyAsInt(a, b), () -> want.applyAsInt(a, b));
    }

    private void act() {
        int a = address();
        int d = disk();
        int t = stripe();
        int c = at();
        int v = near(255);
        int x = near(255);
        int how = near(2);
        switch (pick(14)) {
            case 0: one("lose", d, real::lose, model::lose); break;
            case 1: case 2: one("replace", d, real::replace, model::replace); break;
            case 3: case 4: two("rebuild", d, near(pick(2) == 0 ? 3 : 12), real::rebuild, model::rebuild); break;
            case 5: one("scrub", near(pick(2) == 0 ? 3 : 12), real::scrub, model::scrub); break;
            case 6: case 7:
                same("spoil(" + d + ", " + t + ", " + c + ", " + x + ")", () -> real.spoil(d, t, c, x), () -> model.spoil(d, t, c, x));
                break;
            case 8:
                same("tear(" + a + ", " + v + ", " + how + ")", () -> real.tear(a, v, how), () -> model.tear(a, v, how));
                break;
            case 9: same("clean()", real::clean, model::clean); break;
            case 10: case 11:
                same("full(" + t + ", " + c + ", " + v + ", " + x + ")", () -> real.full(t, c, v, x), () -> model.full(t, c, v, x));
                break;
            default: two("write", a, v, real::write, model::write); break;
        }
    }

    private void question() {
        int a = address();
        int d = disk();
        int t = stripe();
        int c = at();
        switch (pick(26)) {
            case 0: one("rule", near(6), real::rule, model::rule); break;
            case 1: two("times", near(255), near(255), real::times, model::times); break;
            case 2: two("over", near(255), near(255), real::over, model::over); break;
            case 3: one("power", near(999), real::power, model::power); break;
            case 4: one("logOf", near(255), real::logOf, model::logOf); break;
            case 5: two("place", a, near(3), real::place, model::place); break;
            case 6: two("part", d, t, real::part, model::part); break;
            case 7: case 8: one("read", a, real::read, model::read); break;
            case 9: case 10:
                same("cell(" + d + ", " + t + ", " + c + ")", () -> real.cell(d, t, c), () -> model.cell(d, t, c));
                break;
            case 11: case 12: two("disk", d, near(4), real::disk, model::disk); break;
            case 13: one("status", near(3), real::status, model::status); break;
            case 14: two("log", near(pick(3) == 0 ? 61 : 3), near(2), real::log, model::log); break;
            case 15: case 16: two("cost", a, near(2), real::cost, model::cost); break;
            case 17: case 18: told(d, t, c); break;
            case 19: two("who", t, c, real::who, model::who); break;
            case 20: one("checked", a, real::checked, model::checked); break;
            case 21: votes(a); break;
            case 22: case 23: one("most", near(10), real::most, model::most); break;
            default: one("count", near(4), real::count, model::count); break;
        }
    }

    private void told(int d, int t, int c) {
        int e = pick(3) == 0 ? disk() : d;
        int f = disk();
        int o = pick(2) == 0 ? e : f;
        int h = o == e ? f : e;
        same("told(" + d + ", " + t + ", " + c + ", " + o + ", " + h + ")", () -> real.told(d, t, c, o, h), () -> model.told(d, t, c, o, h));
    }

    private void votes(int a) {
        int v = pick(4) == 0 || answer(() -> model.read(a)) < 0 ? near(255) : model.read(a);
        two("votes", a, v, real::votes, model::votes);
    }

    private void question2() {
        switch (pick(12)) {
            case 0: same("more()", real::more, model::more); break;
            case 1: one("left", near(1), real::left, model::left); break;
            case 2: same("fit()", real::fit, model::fit); break;
            case 3: same("equal()", real::equal, model::equal); break;
            case 4: one("span", near(1), real::span, model::span); break;
            case 5: same("risk()", real::risk, model::risk); break;
            case 6: one("first", near(2), real::first, model::first); break;
            case 7: step(); break;
            case 8: case 9: two("run", near(model.count(1) - 1), near(1), real::run, model::run); break;
            case 10: one("perform", near(model.count(1) - 1), real::perform, model::perform); break;
            default: rare(); break;
        }
    }

    private void step() {
        int s = near(model.count(1) - 1);
        int i = near(4);
        int what = near(4);
        same("step(" + s + ", " + i + ", " + what + ")", () -> real.step(s, i, what), () -> model.step(s, i, what));
    }

    private void rare() {
        int n = near(pick(2) == 0 ? 40 : 5);
        long seed = pick(3) == 0 ? pick(20) - 10 : random.nextLong();
        switch (pick(6)) {
            case 0: case 1: same("years(" + n + ", " + seed + ")", () -> real.years(n, seed), () -> model.years(n, seed)); break;
            case 2: case 3: same("image()", real::image, model::image); break;
            case 4: same("back()", real::back, model::back); break;
            default: takeText(pick(5) == 0 ? 0 : 1, broken(pick(4) == 0 ? shelfText() : scriptText())); break;
        }
    }

    /** Everything that can be asked of the whole, at the end of a run. */
    private void survey() {
        for (int what = 0; what <= 10; what++) {
            one("most", what, real::most, model::most);
        }
        for (int d = 0; d < model.rule(5); d++) {
            for (int what = 0; what <= 4; what++) {
                two("disk", d, what, real::disk, model::disk);
            }
        }
        for (int a = 0; a < Math.min(60, model.count(0)); a++) {
            one("read", a, real::read, model::read);
        }
    }

    private void aRun() {
        real = new StripeShelf();
        model = new Model();
        calls = 0;
        story.setLength(0);
        story.append("a new run\n");
        if (pick(20) == 0) {
            for (int i = 0; i < 30; i++) {
                anyCall();
            }
        }
        takeText(0, pick(3) == 0 ? broken(shelfText()) : shelfText());
        for (int i = pick(3); i >= 0; i--) {
            takeText(1, pick(4) == 0 ? broken(scriptText()) : scriptText());
        }
        boolean undoing = pick(3) == 0;
        while (calls < MOST_DRAWN) {
            anyCall();
            if (undoing && pick(120) == 0) {
                for (int i = pick(45); i > 0 && calls < MOST_DRAWN; i--) {
                    same("undo()", real::undo, model::undo);
                    question();
                }
            }
        }
        survey();
        check.due("at most 512 calls of one object", calls <= MOST_CALLS, true);
    }

    private void anyCall() {
        switch (pick(8)) {
            case 0: case 1: case 2: act(); break;
            case 3: case 4: case 5: question(); break;
            case 6: question2(); break;
            default:
                if (pick(8) == 0) {
                    same("undo()", real::undo, model::undo);
                } else {
                    act();
                }
                break;
        }
    }

    private void texts() {
        for (int i = 0; i < 100; i++) {
            if (i % 25 == 0) {
                real = new StripeShelf();
                model = new Model();
                calls = 0;
            }
            story.setLength(0);
            feedText(broken(pick(2) == 0 ? shelfText() : scriptText()));
            check.due("at most 512 calls of one object", calls <= MOST_CALLS, true);
        }
    }

    public static void main(String[] args) {
        TwinTest test = new TwinTest(args.length > 0 ? Long.parseLong(args[0]) : 20261117);
        int runs = args.length > 1 ? Integer.parseInt(args[1]) : 150;
        for (int i = 0; i < runs && !test.wrong; i++) {
            test.aRun();
            test.texts();
        }
        test.check.finish("TwinTest");
    }
}
