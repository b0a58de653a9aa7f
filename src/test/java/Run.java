import java.lang.reflect.InvocationTargetException;
import java.lang.reflect.Method;
import java.nio.charset.StandardCharsets;
import java.util.ArrayList;
import java.util.Collections;
import java.util.HashMap;
import java.util.List;
import java.util.Map;
import java.util.NoSuchElementException;

/**
 * A new object and the calls made on it. A call is told as a text, such as "play 'c' 5" (a sign in quotes
 * is its number, MIN and MAX are the ends of int); its answer is a number, a boolean's 1 or 0.
 */
final class Run {
    static final int NONE = -1;
    /** The answer of a call that throws NoSuchElementException. */
    static final int THROWS = Integer.MIN_VALUE;

    private static final int THROWS_ANOTHER = Integer.MIN_VALUE + 1;
    private static final int PROMISED_CALLS = 512;
    private static final int SHOWN_CALLS = 12;
    private static final Map<String, Method> FACE = face();

    private static int asked = 0;
    private static int wrong = 0;

    private final CutMatch match = new CutMatch();
    private final List<String> trail = new ArrayList<>();

    /** What is done on a run. */
    interface Steps {
        void on(Run run);
    }

    private static Map<String, Method> face() {
        Map<String, Method> all = new HashMap<>();
        for (Method method : CutMatch.class.getDeclaredMethods()) {
            all.put(method.getName(), method);
        }
        return all;
    }

    // ---- making

    /** A run with so many OVERS and these EVENTS. */
    static Run of(int overs, String events) {
        Run run = new Run();
        if (overs != 20) {
            run.due(1, "set 0 " + overs);
        }
        return events.isEmpty() ? run : run.came(events);
    }

    /** Twenty bytes for each five numbers; what is over is filled by a sign that can stand nowhere. */
    static int[] words(String text) {
        String padded = text + "~".repeat((20 - text.length() % 20) % 20);
        byte[] bytes = padded.getBytes(StandardCharsets.ISO_8859_1);
        int[] words = new int[bytes.length / 4];
        for (int k = 0; k < bytes.length; k++) {
            words[k / 4] |= (bytes[k] & 255) << 8 * (3 - k % 4);
        }
        return words;
    }

    /** A TABLE of the same number everywhere. */
    static String allRows(int number) {
        StringBuilder text = new StringBuilder();
        for (int w = 0; w < 10; w++) {
            text.append("row").append(w).append((" " + number).repeat(4)).append(';');
        }
        return text.toString();
    }

    // ---- asking

    private static Object argument(String word, Class<?> type) {
        if (type == boolean.class) {
            return Boolean.valueOf(word);
        }
        if (word.startsWith("'")) {
            return (int) word.charAt(1);
        }
        return word.equals("MIN") ? Integer.MIN_VALUE
            : word.equals("MAX") ? Integer.MAX_VALUE : Integer.parseInt(word);
    }

    private int answer(Method method, Object[] arguments) {
        try {
            Object got = method.invoke(match, arguments);
            return got instanceof Boolean b ? b ? 1 : 0 : (Integer) got;
        } catch (InvocationTargetException e) {
            boolean due = e.getCause().getClass() == NoSuchElementException.class;
            return due ? THROWS : THROWS_ANOTHER;
        } catch (IllegalAccessException e) {
            return THROWS_ANOTHER;
        }
    }

    int ask(String call) {
        if (trail.size() == PROMISED_CALLS) {
            throw new IllegalStateException("the test makes more calls than are promised: " + call);
        }
        String[] words = call.split(" ");
        Method method = FACE.get(words[0]);
        Class<?>[] types = method.getParameterTypes();
        Object[] arguments = new Object[types.length];
        for (int k = 0; k < types.length; k++) {
            arguments[k] = argument(words[k + 1], types[k]);
        }
        int got = answer(method, arguments);
        trail.add(call + " = " + got);
        return got;
    }

    int calls() {
        return trail.size();
    }

    private void blame(String what) {
        wrong++;
        int from = Math.max(0, trail.size() - SHOWN_CALLS);
        System.out.println(what + "; the run: " + (from > 0 ? ".. " : "") + trail.subList(from, trail.size()));
    }

    /** Each of the calls has this answer. */
    Run due(int want, String... calls) {
        for (String call : calls) {
            asked++;
            int got = ask(call);
            if (got != want) {
                blame(call + " answered " + got + ", due is " + want);
            }
        }
        return this;
    }

    /** The calls "name k", k from 0 on, have these answers; name may bear parameters ahead of that one. */
    Run row(String name, int... wants) {
        for (int k = 0; k < wants.length; k++) {
            due(wants[k], name + " " + k);
        }
        return this;
    }

    // ---- texts

    /** The text comes behind the TAPE. */
    Run tell(String text) {
        int before = ask("count 2");
        int[] words = words(text);
        for (int k = 0; k < words.length; k += 5) {
            due(before + 4 * k + 20, "feed " + words[k] + " " + words[k + 1] + " " + words[k + 2] + " "
                + words[k + 3] + " " + words[k + 4]);
        }
        return due(1, "end " + (before + text.length()));
    }

    Run events(int want, String text) {
        return tell(text).due(want, "events");
    }

    Run table(int want, String text) {
        return tell(text).due(want, "table");
    }

    /** EVENTS without a FAULT. */
    Run came(String text) {
        tell(text);
        asked++;
        if (ask("events") == NONE) {
            blame("a FAULT in " + text);
        }
        return this;
    }

    // ---- all that can be asked

    private static List<String> questions(int events) {
        List<String> all = new ArrayList<>();
        add(all, "count", 0, 3);
        add(all, "count", 10, 14);
        for (int w = 0; w < 10; w++) {
            add(all, "told " + w, 1, 4);
        }
        for (int i = 0; i < 2; i++) {
            ofInnings(all, i);
        }
        Collections.addAll(all, "blockNow", "projected", "target", "par", "result", "margin", "ifClosed",
            "ifRuns 50", "leastCut 0", "leastCut 9", "firstAhead");
        add(all, "needs", 0, 3);
        add(all, "broken", 0, 3);
        add(all, "ifCut", 1, 6);
        for (int k : new int[] {0, 1, events - 1, events, events + 1}) {
            add(all, "after " + k, 0, 5);
        }
        return all;
    }

    private static void ofInnings(List<String> all, int i) {
        add(all, "innings " + i, 0, 8);
        add(all, "made " + i, 0, 6);
        add(all, "block " + i, 0, 2);
        for (int k = 0; k < 3; k++) {
            add(all, "inBlock " + i + " " + k, 0, 2);
            add(all, "fall " + i + " " + k, 0, 2);
        }
        for (int k = 0; k < 20; k++) {
            add(all, "over " + i + " " + k, 0, 2);
        }
        add(all, "cut " + i + " 0", 0, 4);
        add(all, "cut " + i + " 1", 0, 4);
        Collections.addAll(all, "lastStand " + i, "bestStand " + i, "bestOver " + i,
            "rate " + i + " false", "rate " + i + " true", "fall " + i + " 9 0");
    }

    private static void add(List<String> all, String name, int from, int till) {
        for (int k = from; k <= till; k++) {
            all.add(name + " " + k);
        }
    }

    /** Everything, at the end what stands on the TAPE, too: told as EVENTS, so that nothing can follow. */
    List<String> everything() {
        int from = trail.size();
        int events = ask("count 0");
        for (String call : questions(events)) {
            ask(call);
        }
        for (String call : new String[] {"events", "fault", "count 0", "innings 0 0", "innings 1 0"}) {
            ask(call);
        }
        return new ArrayList<>(trail.subList(from, trail.size()));
    }

    /** Behind the steps of both all is alike; the FAULT is not looked at. */
    static void alike(Steps one, Steps other) {
        Run first = new Run();
        Run second = new Run();
        one.on(first);
        other.on(second);
        List<String> mine = first.everything();
        List<String> theirs = second.everything();
        asked++;
        if (mine.equals(theirs)) {
            return;
        }
        for (int k = 0; k < Math.min(mine.size(), theirs.size()); k++) {
            if (!mine.get(k).equals(theirs.get(k))) {
                second.blame("not as it was: " + mine.get(k) + ", then " + theirs.get(k));
                return;
            }
        }
    }

    /** The call has this answer, and all is as it was ahead of it, the FAULT too. */
    static void leaves(Steps ahead, int want, String call) {
        Run told = new Run();
        ahead.on(told);
        int fault = told.ask("fault");
        told.due(want, call).due(fault, "fault");
        alike(ahead, run -> {
            ahead.on(run);
            run.due(want, call);
        });
    }

    /** The text is refused by the call (table, events) with this FAULT, the TAPE is empty, all else is as it was. */
    static void refuses(Steps ahead, String call, String text, int kind, int place) {
        alike(ahead, run -> {
            ahead.on(run);
            run.tell(text).due(NONE, call).due(kind + 8 * place, "fault").due(0, "count 2");
        });
    }

    // ---- the end

    static void close() {
        System.out.println(asked + " asked, " + wrong + " not as due");
        if (wrong != 0) {
            System.exit(1);
        }
    }
}
