/** Promises 29 and 30; their edges stand in EdgesOfSheetsTest. */
public final class VoicesTest {
    private static final Due due = new Due("VoicesTest");
    private static final int X = 20;
    private static final int K = 2;
    private static final int M = 7;

    public static void main(String[] args) {
        voices();
        odd();
        parted();
        due.end();
    }

    private static void voice(int kind, int voice, long want, int... bodies) {
        DirtPress x = new DirtPress();
        x.person(0);
        x.person(0);
        x.person(kind * 10 + M);
        String call = "voice " + voice + " of kind " + kind;
        x.voice(2, 2, 1);
        due.is(call, x.voice(K, voice, X), want);
        due.is("bodies of " + call, x.count(4), bodies.length);
        for (int i = 0; i < bodies.length; i++) {
            due.is("body " + i + " of " + call, x.body(i), bodies[i]);
        }
        due.is("a body too many of " + call, x.body(bodies.length), Due.LOW - Due.NONE);
    }

    private static void voices() {
        voice(0, 0, 22, 10);
        voice(0, 1, 44, 11, 10);
        voice(0, 2, 37, 12, 11, 10);
        voice(0, 3, 4, 13);
        voice(1, 0, 18, 20, 10);
        voice(1, 1, 36, 11, 20, 10);
        voice(1, 2, 29, 12, 11, 20, 10);
        voice(1, 3, 4 + 2 * -1, 21, 13, 11, 20, 10);
        voice(2, 0, 22, 10);
        voice(2, 1, -44, 30, 11, 10);
        voice(2, 2, -51, 12, 30, 11, 10);
        voice(2, 3, 4, 13);
        voice(3, 0, 22, 10);
        voice(3, 1, 44, 11, 10);
        voice(3, 2, 24 - 7, 40, 12, 11, 10);
        voice(3, 3, 4, 13);
        voice(4, 0, 54, 50, 20, 10);
        voice(4, 1, 108, 11, 50, 20, 10);
        voice(4, 2, 101 ^ 2, 51, 12, 11, 50, 20, 10);
        voice(4, 3, 4 + 2 * 3 * -1, 21, 13, 11, 50, 20, 10);
        voice(5, 0, 22, 10);
        voice(5, 1, -46, 60, 30, 11, 10);
        voice(5, 2, -53, 12, 60, 30, 11, 10);
        voice(5, 3, 4, 13);
        voice(6, 0, 9, 70);
        voice(6, 1, 25, 71, 11, 70);
        voice(6, 2, 18, 12, 71, 11, 70);
        voice(6, 3, 4, 13);
    }

    private static void odd() {
        DirtPress x = new DirtPress();
        x.person(3);
        x.person(30);
        x.person(1);
        x.person(1);
        due.is("airs of an odd number below 0", x.voice(1, 2, -7), -4);
        due.is("parts by 1 - 2", x.voice(2, 3, 7), -7);
        due.is("parts by 1 - 3", x.voice(3, 3, -7), 3);
        x.become(3, 40);
        due.is("airs of an abbot, 0 ^ 3", x.voice(3, 2, 1), 3);
        due.is("airs of an abbot, 6 ^ 3", x.voice(3, 2, 2), 5);
    }

    private static long spoken(DirtPress x) {
        x.person(3);
        x.person(11);
        x.person(42);
        return x.voice(0, 2, 5);
    }

    private static void parted() {
        DirtPress x = new DirtPress();
        spoken(x);
        due.is("parted", x.voice(1, 3, 5), Due.LOW - Due.PARTED);
        due.is("another voice of the same", x.voice(1, 0, 5), 2);
        due.is("its trace", Due.trace(x), "[20, 10]");
        due.is("parts of one who isn't parted", x.voice(0, 3, 7), 2);
        x.become(1, 13);
        due.is("with another m", x.voice(1, 3, 6), 3 + (1 + 1 - 4) * 2);
        due.is("the trace of that", Due.trace(x), "[21, 13, 11, 20, 10]");
    }
}
