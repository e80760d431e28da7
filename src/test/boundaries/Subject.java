import java.lang.reflect.InvocationTargetException;
import java.lang.reflect.Method;
import java.util.HashMap;
import java.util.Map;

/** A KnownWeight whose calls are told as texts ("trips 31 0 -1"), and counted: the document speaks of 512 at most. */
final class Subject {
    static final int NONE = -1, UNKNOWN = -1000000001, OUTSIDE = -1000000002, NOT = -1000000003, FULL = -1000000004;
    private static final int PROMISED_CALLS = 512;
    private static final Map<String, Method> CALLS = new HashMap<>();

    private final KnownWeight object = new KnownWeight();
    private final int mostCalls;
    private int calls;

    static {
        for (Method m : KnownWeight.class.getDeclaredMethods()) {
            CALLS.put(m.getName(), m);
        }
    }

    Subject() {
        this(PROMISED_CALLS);
    }

    /** For what cannot be reached within the promised calls. */
    Subject(int mostCalls) {
        this.mostCalls = mostCalls;
    }

    static Subject of(String text) {
        Subject x = new Subject();
        x.feedAll(text);
        x.dueTaken("land");
        return x;
    }

    int call(String call) {
        String[] words = call.trim().split(" +");
        Object[] numbers = new Object[words.length - 1];
        for (int k = 0; k < numbers.length; k++) {
            numbers[k] = Integer.parseInt(words[k + 1]);
        }
        calls++;
        if (calls == mostCalls + 1) {
            Doc.check(false, "a test makes more calls than an object is promised for");
        }
        try {
            return (Integer) CALLS.get(words[0]).invoke(object, numbers);
        } catch (IllegalAccessException e) {
            throw new IllegalStateException(e);
        } catch (InvocationTargetException e) {
            Doc.check(false, call + " threw " + e.getCause());
            return 0;
        }
    }

    void due(String call, int want) {
        int got = call(call);
        Doc.check(got == want, call + " answered " + got + ", due is " + want);
    }

    /** What is due for a last number of 0, 1 and so on. */
    void dueRow(String call, int... wants) {
        for (int k = 0; k < wants.length; k++) {
            due(call + " " + k, wants[k]);
        }
    }

    void dueTaken(String call) {
        int got = call(call);
        Doc.check(got > UNKNOWN, call + " was refused by " + got);
    }

    void dueEach(int want, String... calls) {
        for (String call : calls) {
            due(call, want);
        }
    }

    /** The number at # is taken from low to high, and OUTSIDE beyond. */
    void dueBounds(String call, int low, int high) {
        dueTaken(with(call, low));
        dueTaken(with(call, high));
        dueBeyond(call, OUTSIDE, low, high);
    }

    /** The number at # is taken from 0 on below count, and UNKNOWN beyond. */
    void dueKnown(String call, int count) {
        if (count > 0) {
            dueTaken(with(call, 0));
            dueTaken(with(call, count - 1));
        }
        dueBeyond(call, UNKNOWN, 0, count - 1);
    }

    /** As dueKnown, where NONE is taken, too. */
    void dueKnownOrNone(String call, int count) {
        dueTaken(with(call, NONE));
        if (count > 0) {
            dueTaken(with(call, count - 1));
        }
        dueBeyond(call, UNKNOWN, NONE, count - 1);
    }

    private void dueBeyond(String call, int refusal, int low, int high) {
        due(with(call, low - 1), refusal);
        due(with(call, Integer.MIN_VALUE), refusal);
        if (high < Integer.MAX_VALUE) {
            due(with(call, high + 1), refusal);
            due(with(call, Integer.MAX_VALUE), refusal);
        }
    }

    private static String with(String call, int number) {
        return call.replace("#", String.valueOf(number));
    }

    void feedAll(String text) {
        for (int k = 0; k < text.length(); k++) {
            int got = call("feed " + (int) text.charAt(k));
            Doc.check(got == k + 1, "feed of letter " + k + " of '" + text + "' answered " + got);
        }
    }

    static void dueGood(String text, int people) {
        Subject x = new Subject();
        x.feedAll(text);
        int got = x.call("land");
        int place = x.call("fault");
        Doc.check(got == people && place == NONE, "land of '" + text + "' answered " + got + " with a fault at " + place);
    }

    static void dueFault(String text, int kind, int place) {
        Subject x = new Subject();
        x.feedAll(text);
        int got = x.call("land");
        int gotPlace = x.call("fault");
        Doc.check(got == -10 - kind && gotPlace == place, "land of '" + text + "' answered " + got + " with a fault at "
            + gotPlace + ", due is " + (-10 - kind) + " at " + place);
    }

    /** All that calls show: what is so, what comes of it, what the images keep, and what the text has. It uses the object up. */
    String look() {
        StringBuilder seen = new StringBuilder("fault " + call("fault"));
        lookAtLand(seen);
        lookAtHeads(seen);
        // scales and seed are only seen by what they do
        lookAt(seen, "judge", "seed 3", "drift 1", "judge", "drift 2", "judge");
        for (int i = 0; i < 2; i++) {
            lookAt(seen, "goBack " + i, "judge", "seed 3");
            lookAtHeads(seen);
        }
        lookAt(seen, "feed 59", "land", "fault");
        lookAtLand(seen);
        lookAtHeads(seen);
        return seen.toString();
    }

    /** Of two looks, what was seen behind a call and what is due, by the first thing that is otherwise. */
    static void dueAlike(String by, String behind, String due) {
        String[] seen = behind.split("; ");
        String[] wanted = due.split("; ");
        int k = 0;
        while (k < seen.length && k < wanted.length && seen[k].equals(wanted[k])) {
            k++;
        }
        boolean alike = k == seen.length && k == wanted.length;
        Doc.check(alike, "behind " + by + " calls show " + (k < seen.length ? seen[k] : "less") + ", due is "
            + (k < wanted.length ? wanted[k] : "less"));
    }

    private void lookAtLand(StringBuilder seen) {
        for (int what = 0; what <= 9; what++) {
            lookAt(seen, "told " + what);
        }
        int bridges = call("told 3");
        for (int b = 0; b < bridges; b++) {
            lookAt(seen, "bridge " + b);
        }
        int facts = call("told 1");
        for (int f = 0; f < facts; f++) {
            lookAt(seen, "fact " + f + " 0", "fact " + f + " 1", "fact " + f + " 2");
        }
    }

    private void lookAtHeads(StringBuilder seen) {
        int people = call("told 0");
        int facts = call("told 1");
        lookAt(seen, "told 6", "told 8");
        for (int p = 0; p < people; p++) {
            lookAt(seen, "person " + p + " 0", "person " + p + " 2", "weight " + p);
            for (int f = 0; f < facts; f++) {
                lookAt(seen, "since " + p + " " + f);
            }
        }
    }

    private void lookAt(StringBuilder seen, String... calls) {
        for (String call : calls) {
            seen.append("; ").append(call).append(" -> ").append(call(call));
        }
    }
}
