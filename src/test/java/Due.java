import java.util.Arrays;
import java.util.HashSet;
import java.util.Set;

/** What a test asks, and how many answers were wrong. Every object it makes stays under 512 calls. */
final class Due {
    static final int LOW = -1000000000;
    static final int BEYOND = 1;
    static final int NONE = 2;
    static final int STATE = 3;
    static final int FULL = 4;
    static final int KIND = 5;
    static final int PARTED = 6;
    private static final String[] NAMES = {"", "BEYOND", "NONE", "STATE", "FULL", "KIND", "PARTED"};

    interface Act {
        long on(DirtPress x);
    }

    interface Of {
        long on(DirtPress x, int v);
    }

    private final String test;
    private final Set<String> edges = new HashSet<>();
    private int asked;
    private int wrong;

    Due(String test) {
        this.test = test;
    }

    void is(String call, long got, long want) {
        asked++;
        if (got != want) {
            wrong++;
            System.out.println(test + ": " + call + " answered " + got + ", due is " + want);
        }
    }

    void is(String call, String got, String want) {
        asked++;
        if (!got.equals(want)) {
            wrong++;
            System.out.println(test + ": " + call + " gave " + got + ", due is " + want);
        }
    }

    /** A test of its own for one edge: what the act answers on a new object behind the setup. */
    void edge(String edge, Act setup, Act act, long want) {
        alone(edge);
        DirtPress x = new DirtPress();
        setup.on(x);
        is(edge, act.on(x), want);
    }

    /** A test of its own for one edge: what is seen behind the act. */
    void edge(String edge, Act setup, Act act, Act seen, long want) {
        edge(edge, x -> setup.on(x) + act.on(x), seen, want);
    }

    /** A test of its own for one edge: the act is let in, it answers no ERROR and none is told. */
    void letsIn(String edge, Act setup, Act act) {
        alone(edge);
        DirtPress x = new DirtPress();
        setup.on(x);
        String before = told(x);
        is(edge + " is let in", act.on(x) >= LOW ? 1 : 0, 1);
        is(edge + " is let in, then told()", told(x), before);
    }

    /** A test of its own for each side: the least and the most are let in, what is below or above is BEYOND. */
    void range(String edge, Act setup, Of act, int least, int most) {
        letsIn(edge + " " + least, setup, x -> act.on(x, least));
        if (most > least) {
            letsIn(edge + " " + most, setup, x -> act.on(x, most));
        }
        for (int v : new int[] {least - 1, most + 1, Integer.MIN_VALUE, Integer.MAX_VALUE}) {
            error(edge + " " + v, setup, x -> act.on(x, v), BEYOND);
        }
    }

    private void alone(String edge) {
        is(edge + " is asked once", edges.add(edge) ? 1 : 0, 1);
    }

    /** A test of its own: the call answers an ERROR, which told() tells once more; nothing else is changed. */
    void error(String call, Act setup, Act act, int k) {
        error(call, setup, act, k, false);
    }

    /** As error, but the call is a voice(), which is parted: THE TRACE is that of the bodies. */
    void parted(String call, Act setup, Act act, int... bodies) {
        error(call, setup, act, PARTED, true);
        DirtPress x = new DirtPress();
        setup.on(x);
        act.on(x);
        is(call + ", THE TRACE", trace(x), Arrays.toString(bodies));
        is(call + ", a body too many", x.body(bodies.length), LOW - NONE);
    }

    private void error(String call, Act setup, Act act, int k, boolean traces) {
        alone(call);
        DirtPress without = new DirtPress();
        setup.on(without);
        DirtPress with = new DirtPress();
        setup.on(with);
        int[] told = new int[7];
        for (int i = 1; i <= 6; i++) {
            told[i] = without.told(i) + (i == k ? 1 : 0);
        }
        is(call + " (" + NAMES[k] + ")", act.on(with), LOW - k);
        for (int i = 1; i <= 6; i++) {
            is(call + ", then told(" + i + ")", with.told(i), told[i]);
        }
        if (!traces) {
            is(call + ", then THE TRACE", trace(with), trace(without));
        }
        for (Look look : Look.values()) {
            is(call + ", then " + look, seen(look, setup, act), seen(look, setup, x -> 0));
        }
    }

    /** What can be seen of a new object behind the setup and the act. */
    static String seen(Look look, Act setup, Act act) {
        DirtPress x = new DirtPress();
        setup.on(x);
        act.on(x);
        return look.at(x);
    }

    /** All that can be seen but THE TRACE and what told() tells, behind the setup and the act. */
    static String all(Act setup, Act act) {
        StringBuilder all = new StringBuilder();
        for (Look look : Look.values()) {
            all.append(look).append(' ').append(seen(look, setup, act)).append('\n');
        }
        return all.toString();
    }

    static String told(DirtPress x) {
        int[] told = new int[6];
        for (int k = 1; k <= 6; k++) {
            told[k - 1] = x.told(k);
        }
        return Arrays.toString(told);
    }

    static String trace(DirtPress x) {
        int[] bodies = new int[x.count(4)];
        for (int i = 0; i < bodies.length; i++) {
            bodies[i] = x.body(i);
        }
        return Arrays.toString(bodies);
    }

    static long set(DirtPress x, int person, int... spoons) {
        long last = 0;
        for (int sort = 0; sort < spoons.length; sort++) {
            last = x.spoon(person, sort, spoons[sort]);
        }
        return last;
    }

    static long row(DirtPress x, int sheet, int bits, int... numbers) {
        long last = x.sheet(sheet, bits, numbers.length);
        for (int i = 0; i < numbers.length; i++) {
            last = x.put(sheet, i, numbers[i]);
        }
        return last;
    }

    static int feed(DirtPress x, String text) {
        int fed = x.count(2);
        for (int at = 0; at < text.length(); at += 8) {
            int n = Math.min(8, text.length() - at);
            long word = 0;
            for (int i = 0; i < n; i++) {
                word |= (long) (text.charAt(at + i) & 255) << (8 * i);
            }
            fed = x.feed(word, n);
        }
        return fed;
    }

    static int text(DirtPress x, int use, String text) {
        feed(x, text);
        return x.text(use);
    }

    void end() {
        System.out.println(test + ": " + (asked - wrong) + " of " + asked + " as due");
        if (wrong != 0) {
            System.exit(1);
        }
    }
}
