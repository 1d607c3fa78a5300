import java.lang.reflect.InvocationTargetException;
import java.lang.reflect.Method;
import java.util.ArrayList;
import java.util.HashMap;
import java.util.List;
import java.util.Map;
import java.util.NoSuchElementException;

/**
 * A run of calls on a new object, told in lines, each with the answer that is due:
 *
 * <pre>
 *   lose 2 -> 1            a call, its numbers, its answer (NONE, HIDDEN, true, false, throws, a number)
 *   lose 2 -> NONE !2      it is refused and counts STATUS 2
 *   end 99 -> false !      it is refused and counts no STATUS
 *   tape 'sd3'             the tape has this text alone
 *   shelf 'sd3' -> 24      this text is the shelf; script 'y' -> 0 likewise
 * </pre>
 *
 * Of each line with a ! the story is told twice, with that call and without it: whatever can be asked
 * then must be answered alike, but for STATUS. No object is used for more than 512 calls.
 */
final class Story {
    private static final int MOST_CALLS = 512;
    private static final int NOT_REFUSED = -2;
    private static final int NO_STATUS = -1;
    private static final long THROWN = Long.MIN_VALUE;
    private static final Map<String, Method> FACE = new HashMap<>();

    static {
        for (Method m : StripeShelf.class.getDeclaredMethods()) {
            FACE.put(m.getName(), m);
        }
    }

    /** One call of the face. */
    private static final class Call {
        final String name;
        final long[] numbers;
        Long due = null;
        boolean taken = false;
        int refusal = NOT_REFUSED;

        Call(String name, long... numbers) {
            this.name = name;
            this.numbers = numbers;
        }

        @Override
        public String toString() {
            StringBuilder text = new StringBuilder(name).append('(');
            for (int i = 0; i < numbers.length; i++) {
                text.append(i > 0 ? ", " : "").append(numbers[i]);
            }
            return text.append(')').toString();
        }
    }

    /** An object and how many calls it has had. */
    private static final class Player {
        final StripeShelf shelf = new StripeShelf();
        int calls = 0;

        Player(List<Call> calls) {
            for (Call call : calls) {
                ask(call);
            }
        }

        int ask(String name, long... numbers) {
            return (int) ask(new Call(name, numbers));
        }

        long ask(Call call) {
            calls++;
            Method method = FACE.get(call.name);
            Object[] numbers = new Object[call.numbers.length];
            for (int i = 0; i < numbers.length; i++) {
                boolean isLong = method.getParameterTypes()[i] == long.class;
                numbers[i] = isLong ? (Object) call.numbers[i] : (Object) (int) call.numbers[i];
            }
            try {
                Object answer = method.invoke(shelf, numbers);
                return answer instanceof Boolean ? ((Boolean) answer ? 1 : 0) : (Integer) answer;
            } catch (InvocationTargetException e) {
                if (e.getCause() instanceof NoSuchElementException) {
                    return THROWN;
                }
                throw new IllegalStateException(call + " threw", e.getCause());
            } catch (IllegalAccessException e) {
                throw new IllegalStateException(e);
            }
        }
    }

    private final Check check;
    private final String sentence;
    private final List<Call> calls = new ArrayList<>();

    Story(Check check, String sentence, String... lines) {
        this.check = check;
        this.sentence = sentence;
        for (String line : lines) {
            read(line);
        }
    }

    // ---- lines

    private void read(String line) {
        String rest = line;
        int refusal = NOT_REFUSED;
        int mark = rest.lastIndexOf('!');
        if (mark >= 0) {
            String number = rest.substring(mark + 1).trim();
            refusal = number.isEmpty() ? NO_STATUS : Integer.parseInt(number);
            rest = rest.substring(0, mark);
        }
        Long due = null;
        int arrow = rest.lastIndexOf("->");
        if (arrow >= 0) {
            due = answer(rest.substring(arrow + 2).trim());
            rest = rest.substring(0, arrow);
        }
        int quote = rest.indexOf('\'');
        if (quote >= 0) {
            readText(rest.substring(0, quote).trim(), rest.substring(quote + 1, rest.lastIndexOf('\'')));
        } else {
            String[] words = rest.trim().split(" +");
            long[] numbers = new long[words.length - 1];
            for (int i = 0; i < numbers.length; i++) {
                numbers[i] = number(words[i + 1]);
            }
            calls.add(new Call(words[0], numbers));
        }
        Call last = calls.get(calls.size() - 1);
        last.due = due;
        last.refusal = refusal;
    }

    private void readText(String what, String text) {
        Call empty = new Call("end", 0);
        empty.due = 1L;
        calls.add(empty);
        for (int[] w : Check.words(text)) {
            calls.add(new Call("feed", w[0], w[1], w[2], w[3], w[4]));
        }
        if (!what.equals("tape")) {
            Call text0 = new Call("text", what.equals("shelf") ? 0 : 1);
            text0.taken = true;
            calls.add(text0);
        }
    }

    private static long number(String word) {
        switch (word) {
            case "MIN": return Integer.MIN_VALUE;
            case "MAX": return Integer.MAX_VALUE;
            default: return word.startsWith("0x") ? (int) Long.parseLong(word.substring(2), 16) : Long.parseLong(word);
        }
    }

    private static long answer(String word) {
        switch (word) {
            case "NONE": return StripeShelf.NONE;
            case "HIDDEN": return StripeShelf.HIDDEN;
            case "true": return 1;
            case "false": return 0;
            case "throws": return THROWN;
            default: return number(word);
        }
    }

    // ---- telling

    /** Every answer, STATUS at the end, and that what is refused changes nothing. */
    void tell() {
        Player player = new Player(List.of());
        for (int i = 0; i < calls.size(); i++) {
            Call call = calls.get(i);
            long got = player.ask(call);
            if (call.due != null) {
                check.due(sentence + ": call " + i + ", " + call, got, call.due);
            } else if (call.taken) {
                check.due(sentence + ": call " + i + ", the text is taken", got >= 0, true);
            }
            if (call.refusal != NOT_REFUSED) {
                changesNothing(i);
            }
        }
        statuses(player, calls.size());
        check.due(sentence + ": at most 512 calls", player.calls <= MOST_CALLS, true);
    }

    private void statuses(Player player, int many) {
        int[] due = new int[4];
        for (Call call : calls.subList(0, many)) {
            if (call.refusal >= 0) {
                due[call.refusal]++;
            }
        }
        for (int i = 0; i < 4; i++) {
            check.due(sentence + ": status(" + i + ") behind " + many + " calls", player.ask("status", i), due[i]);
        }
    }

    private void changesNothing(int refused) {
        List<Call> with = calls.subList(0, refused + 1);
        List<Call> without = calls.subList(0, refused);
        statuses(new Player(with), refused + 1);
        compare(check, sentence + ": " + calls.get(refused) + " is refused", with, without);
    }

    /** Both stories leave the same, but for STATUS. */
    static void alike(Check check, String sentence, Story one, Story other) {
        one.tell();
        other.tell();
        compare(check, sentence, one.calls, other.calls);
    }

    private static void compare(Check check, String what, List<Call> one, List<Call> other) {
        int room = MOST_CALLS - Math.max(one.size(), other.size());
        List<Call> questions = questions(new Player(other));
        for (int from = 0; from < questions.size(); from += room) {
            ask(check, what, one, other, questions.subList(from, Math.min(from + room, questions.size())));
        }
        List<Call> undoing = undoing(new Player(other).ask("count", 4));
        ask(check, what, one, other, undoing.subList(0, Math.min(room, undoing.size())));
        List<Call> back = List.of(new Call("equal"), new Call("back"), new Call("most", 6), new Call("rule", 4),
            new Call("read", 0), new Call("count", 3), new Call("log", 0, 0), new Call("count", 4));
        ask(check, what, one, other, back.subList(0, Math.min(room, back.size())));
        for (int sort = 0; sort < 2; sort++) {
            List<Call> taking = List.of(new Call("text", sort), new Call("rule", 6), new Call("read", 0), new Call("step", 0, 0, 0));
            ask(check, what, one, other, taking.subList(0, Math.min(room, taking.size())));
        }
    }

    private static void ask(Check check, String what, List<Call> one, List<Call> other, List<Call> questions) {
        Player a = new Player(one);
        Player b = new Player(other);
        for (Call question : questions) {
            check.due(what + ", then " + question, a.ask(question), b.ask(question));
        }
    }

    /** All that can be asked without a change, but STATUS. */
    private static List<Call> questions(Player player) {
        List<Call> all = new ArrayList<>();
        add(all, "count", 5);
        add(all, "rule", 7);
        add(all, "most", 11);
        add(all, "read", player.ask("count", 0));
        add(all, "fault", 2);
        add(all, "left", 2);
        add(all, "span", 2);
        add(all, "first", 3);
        for (String name : new String[] {"more", "fit", "equal", "risk"}) {
            all.add(new Call(name));
        }
        for (int disk = 0; disk < player.ask("rule", 5); disk++) {
            add(all, "disk", 5, disk);
            for (int stripe = 0; stripe < player.ask("rule", 1); stripe++) {
                add(all, "cell", player.ask("rule", 2), disk, stripe);
            }
        }
        for (int i = 0; i < player.ask("count", 3); i++) {
            add(all, "log", 3, i);
        }
        for (int script = 0; script < player.ask("count", 1); script++) {
            for (int i = 0; i < 16; i++) {
                add(all, "step", 5, script, i);
            }
        }
        return all;
    }

    /** A question with each last number from 0 on. */
    private static void add(List<Call> all, String name, int many, long... ahead) {
        for (int i = 0; i < many; i++) {
            long[] numbers = java.util.Arrays.copyOf(ahead, ahead.length + 1);
            numbers[ahead.length] = i;
            all.add(new Call(name, numbers));
        }
    }

    private static List<Call> undoing(int many) {
        List<Call> all = new ArrayList<>();
        for (int i = 0; i <= many; i++) {
            all.add(new Call("undo"));
            all.add(new Call("most", i % 11));
            all.add(new Call("read", i));
            all.add(new Call("log", 0, i % 3));
        }
        return all;
    }
}
