import java.util.ArrayList;
import java.util.Arrays;
import java.util.List;

/** What a test asks, and how many answers were wrong. Every object it makes stays under 512 calls. */
final class Due {
    static final int LOW = -1000000000;
    static final int BEYOND = 1;
    static final int NONE = 2;
    static final int STATE = 3;
    static final int FULL = 4;
    static final int KIND = 5;
    static final int PARTED = 6;
    private static final String[] NAMES = {"", "BEYOND", "NONE", "STATE", "FULL", "KIND", "PARTED"};

    interface Act {
        long on(DirtPress x);
    }

    private final String test;
    private int asked;
    private int wrong;

    Due(String test) {
        this.test = test;
    }

    void is(String call, long got, long want) {
        asked++;
        if (got != want) {
            wrong++;
            System.out.println(test + ": " + call + " answered " + got + ", due is " + want);
        }
    }

    void is(String call, String got, String want) {
        asked++;
        if (!got.equals(want)) {
            wrong++;
            System.out.println(test + ": " + call + " gave " + got + ", due is " + want);
        }
    }

    /** After the setup, the call answers an ERROR, which told() tells once more; nothing else is changed. */
    void error(String call, Act setup, Act act, int k) {
        error(call, setup, act, k, false);
    }

    /** As error, but the call is a voice(), which is parted: THE TRACE is that of the bodies. */
    void parted(String call, Act setup, Act act, int... bodies) {
        error(call, setup, act, PARTED, true);
        DirtPress x = new DirtPress();
        setup.on(x);
        act.on(x);
        is(call + ", THE TRACE", trace(x), Arrays.toString(bodies));
        is(call + ", a body too many", x.body(bodies.length), LOW - NONE);
    }

    private void error(String call, Act setup, Act act, int k, boolean traces) {
        DirtPress without = new DirtPress();
        setup.on(without);
        DirtPress with = new DirtPress();
        setup.on(with);
        is(call + " (" + NAMES[k] + ")", act.on(with), LOW - k);
        for (int i = 1; i <= 6; i++) {
            is(call + ", then told(" + i + ")", with.told(i), without.told(i) + (i == k ? 1 : 0));
        }
        if (!traces) {
            is(call + ", then THE TRACE", trace(with), trace(without));
        }
        is(call + ", then all", look(with), look(without));
    }

    static String trace(DirtPress x) {
        int[] bodies = new int[x.count(4)];
        for (int i = 0; i < bodies.length; i++) {
            bodies[i] = x.body(i);
        }
        return Arrays.toString(bodies);
    }

    /** All that can be seen of an object but THE TRACE; it is not used any more then. */
    static String look(DirtPress x) {
        List<Long> seen = new ArrayList<>();
        for (int i = 0; i <= 5; i++) {
            if (i != 4) {
                seen.add((long) x.count(i));
            }
        }
        int people = x.count(0);
        for (int p = 0; p < people; p++) {
            for (int what = 0; what <= 6; what++) {
                seen.add((long) x.personIs(p, what));
            }
            for (int sort = 0; sort < 5; sort++) {
                seen.add((long) x.hold(p, sort));
            }
            for (int other = 0; other < people; other++) {
                if (other != p) {
                    seen.add((long) x.owes(p, other));
                }
            }
        }
        seen.add((long) x.law(0, 5, 1, 2));
        seen.add((long) x.law(1, 5, 1, 2));
        for (int sheet = 0; sheet < 4; sheet++) {
            seen.add((long) x.fits(sheet, 0));
            seen.add((long) x.judge(sheet));
            for (int i = 0; i < 24; i += 4) {
                seen.add((long) x.put(sheet, i, 1));
            }
            seen.add((long) x.move(sheet, 0, 0, 0, 0));
        }
        seen.add((long) x.check());
        seen.add((long) x.text(0));
        seen.add((long) x.law(0, 5, 1, 2));
        seen.add((long) x.restore());
        seen.add((long) x.count(0));
        seen.add((long) x.image());
        return seen.toString();
    }

    static long set(DirtPress x, int person, int... spoons) {
        long last = 0;
        for (int sort = 0; sort < spoons.length; sort++) {
            last = x.spoon(person, sort, spoons[sort]);
        }
        return last;
    }

    static long row(DirtPress x, int sheet, int bits, int... numbers) {
        long last = x.sheet(sheet, bits, numbers.length);
        for (int i = 0; i < numbers.length; i++) {
            last = x.put(sheet, i, numbers[i]);
        }
        return last;
    }

    static int feed(DirtPress x, String text) {
        int fed = x.count(2);
        for (int at = 0; at < text.length(); at += 8) {
            int n = Math.min(8, text.length() - at);
            long word = 0;
            for (int i = 0; i < n; i++) {
                word |= (long) (text.charAt(at + i) & 255) << (8 * i);
            }
            fed = x.feed(word, n);
        }
        return fed;
    }

    static int text(DirtPress x, int use, String text) {
        feed(x, text);
        return x.text(use);
    }

    void end() {
        System.out.println(test + ": " + (asked - wrong) + " of " + asked + " as due");
        if (wrong != 0) {
            System.exit(1);
        }
    }
}
