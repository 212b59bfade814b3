import java.util.ArrayList;
import java.util.List;

/** What the tests of the project share: counting answers that are not due, and putting texts in. */
final class Check {
    interface Call {
        long run();
    }

    private static String place = "";
    private static int promise;
    private static int done;
    private static int wrong;
    private static final int[] counts = new int[66];

    private Check() {
    }

    /** The checks that follow belong to this promise. */
    static void promise(int number) {
        promise = number;
        place = "promise " + number;
    }

    /** The checks that follow belong to this section of the document's description. */
    static void section(int number) {
        promise = 0;
        place = "section " + number;
    }

    static void due(String what, long got, long want) {
        count();
        if (got != want) {
            report(what + " answered " + got + ", due is " + want);
        }
    }

    static void dueText(String what, String got, String want) {
        count();
        if (!got.equals(want)) {
            report(what + " answered <" + got + ">, due is <" + want + ">");
        }
    }

    /** The exception must be of this very class: what the machine throws is of a class below. */
    static void dueThrow(String what, Class<? extends RuntimeException> want, Call call) {
        count();
        try {
            long got = call.run();
            report(what + " answered " + got + ", due is " + want.getSimpleName());
        } catch (RuntimeException e) {
            if (e.getClass() != want) {
                report(what + " threw " + e + ", due is " + want.getSimpleName());
            }
        }
    }

    static void outside(String what, Call call) {
        dueThrow(what, IndexOutOfBoundsException.class, call);
    }

    static void argument(String what, Call call) {
        dueThrow(what, IllegalArgumentException.class, call);
    }

    static void state(String what, Call call) {
        dueThrow(what, IllegalStateException.class, call);
    }

    static void missing(String what, Call call) {
        dueThrow(what, java.util.NoSuchElementException.class, call);
    }

    static void unsupported(String what, Call call) {
        dueThrow(what, UnsupportedOperationException.class, call);
    }

    private static void count() {
        counts[promise]++;
        done++;
    }

    /** How many checks there were until now. */
    static int done() {
        return done;
    }

    static void report(String text) {
        wrong++;
        System.out.println(place + ": " + text);
    }

    /** Each of these promises must have been checked. */
    static void end(int first, int last) {
        List<Integer> without = new ArrayList<>();
        for (int k = first; k <= last; k++) {
            if (counts[k] == 0) {
                without.add(k);
            }
        }
        System.out.println(done + " checks of promises " + first + " to " + last + ", " + wrong + " wrong");
        if (!without.isEmpty()) {
            System.out.println("promises without a check: " + without);
        }
        if (wrong != 0 || !without.isEmpty()) {
            System.exit(1);
        }
    }

    /** Puts a text of at most 400 characters into the buffer, in place of what is in it. */
    static void put(CheckpointSwap x, String text) {
        int length = x.truncateText(0);
        for (int k = 0; k < text.length(); k += 20) {
            x.appendText(word(text, k), word(text, k + 4), word(text, k + 8), word(text, k + 12), word(text, k + 16));
        }
        x.truncateText(length + text.length());
    }

    static int word(String text, int from) {
        int word = 0;
        for (int k = from; k < from + 4; k++) {
            word = word << 8 | (k < text.length() ? text.charAt(k) & 255 : ' ');
        }
        return word;
    }

    static int parse(CheckpointSwap x, String text) {
        put(x, text);
        return x.parseSystem();
    }

    static int script(CheckpointSwap x, String text) {
        put(x, text);
        return x.runScript();
    }

    static CheckpointSwap system(String text) {
        CheckpointSwap x = new CheckpointSwap();
        if (parse(x, text) < 1) {
            throw new AssertionError("the test's own text is wrong: " + text);
        }
        return x;
    }

    /** A system after a script, which is one change. */
    static CheckpointSwap after(String text, String script) {
        CheckpointSwap x = system(text);
        if (script(x, script) < 0) {
            throw new AssertionError("the test's own script is wrong: " + script);
        }
        return x;
    }

    static String reportOf(CheckpointSwap x) {
        int length = x.writeReport();
        StringBuilder text = new StringBuilder();
        for (int k = 0; k < length; k++) {
            text.append((char) x.reportByte(k));
        }
        return text.toString();
    }
}
