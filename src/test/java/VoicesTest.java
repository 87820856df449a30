/** Promises 29 and 30. */
public final class VoicesTest {
    private static final Due due = new Due("VoicesTest");
    private static final int X = 20;
    private static final int K = 2;
    private static final int M = 7;

    public static void main(String[] args) {
        voices();
        wraps();
        parted();
        beyondBehindParted();
        wrong();
        due.end();
    }

    private static void voice(int kind, int voice, long want, int... bodies) {
        DirtPress x = new DirtPress();
        x.person(0);
        x.person(0);
        x.person(kind * 10 + M);
        String call = "voice " + voice + " of kind " + kind;
        x.voice(2, 2, 1);
        due.is(call, x.voice(K, voice, X), want);
        due.is("bodies of " + call, x.count(4), bodies.length);
        for (int i = 0; i < bodies.length; i++) {
            due.is("body " + i + " of " + call, x.body(i), bodies[i]);
        }
        due.is("a body too many of " + call, x.body(bodies.length), Due.LOW - Due.NONE);
    }

    private static void voices() {
        voice(0, 0, 22, 10);
        voice(0, 1, 44, 11, 10);
        voice(0, 2, 37, 12, 11, 10);
        voice(0, 3, 4, 13);
        voice(1, 0, 18, 20, 10);
        voice(1, 1, 36, 11, 20, 10);
        voice(1, 2, 29, 12, 11, 20, 10);
        voice(1, 3, 4 + 2 * -1, 21, 13, 11, 20, 10);
        voice(2, 0, 22, 10);
        voice(2, 1, -44, 30, 11, 10);
        voice(2, 2, -51, 12, 30, 11, 10);
        voice(2, 3, 4, 13);
        voice(3, 0, 22, 10);
        voice(3, 1, 44, 11, 10);
        voice(3, 2, 24 - 7, 40, 12, 11, 10);
        voice(3, 3, 4, 13);
        voice(4, 0, 54, 50, 20, 10);
        voice(4, 1, 108, 11, 50, 20, 10);
        voice(4, 2, 101 ^ 2, 51, 12, 11, 50, 20, 10);
        voice(4, 3, 4 + 2 * 3 * -1, 21, 13, 11, 50, 20, 10);
        voice(5, 0, 22, 10);
        voice(5, 1, -46, 60, 30, 11, 10);
        voice(5, 2, -53, 12, 60, 30, 11, 10);
        voice(5, 3, 4, 13);
        voice(6, 0, 9, 70);
        voice(6, 1, 25, 71, 11, 70);
        voice(6, 2, 18, 12, 71, 11, 70);
        voice(6, 3, 4, 13);
    }

    private static void wraps() {
        DirtPress x = new DirtPress();
        x.person(3);
        x.person(30);
        x.person(1);
        x.person(1);
        due.is("wrings wraps", x.voice(0, 1, Integer.MAX_VALUE), -2);
        due.is("airs of an odd number below 0", x.voice(1, 2, -7), -4);
        due.is("parts is cut toward 0", x.voice(2, 3, 7), -7);
        due.is("the least by -1", x.voice(2, 3, Integer.MIN_VALUE), Integer.MIN_VALUE);
        due.is("parts by 1 - 3", x.voice(3, 3, -7), 3);
        due.is("an answer that is no error", x.voice(0, 0, -1000000001), -1000000001);
        due.is("is not told", x.told(1), 0);
        x.become(3, 40);
        due.is("airs of an abbot, 0 ^ 3", x.voice(3, 2, 1), 3);
        due.is("airs of an abbot, 6 ^ 3", x.voice(3, 2, 2), 5);
    }

    private static long spoken(DirtPress x) {
        x.person(3);
        x.person(11);
        x.person(42);
        return x.voice(0, 2, 5);
    }

    private static long spokenBySeven(DirtPress x) {
        for (int kind = 0; kind <= 6; kind++) {
            x.person(kind * 10 + kind);
        }
        return x.voice(4, 2, 5);
    }

    private static void parted() {
        due.parted("parts of a person by 0", VoicesTest::spokenBySeven, x -> x.voice(0, 3, 5), 13);
        due.parted("parts of a bishop by 0", VoicesTest::spokenBySeven, x -> x.voice(1, 3, 5), 21, 13);
        due.parted("parts of a sweep by 0", VoicesTest::spokenBySeven, x -> x.voice(2, 3, 5), 13);
        due.parted("parts of an inker by 0", VoicesTest::spokenBySeven, x -> x.voice(3, 3, 5), 13);
        due.parted("parts of an abbot by 0", VoicesTest::spokenBySeven, x -> x.voice(4, 3, 0), 21, 13);
        due.parted("parts of a duster by 0", VoicesTest::spokenBySeven, x -> x.voice(5, 3, 5), 13);
        due.parted("parts of a foundling by 0", VoicesTest::spokenBySeven, x -> x.voice(6, 3, 5), 13);
        due.parted("parts by 0 as the first of all", x -> x.person(0), x -> x.voice(0, 3, 0), 13);
        DirtPress x = new DirtPress();
        spoken(x);
        due.is("parted", x.voice(1, 3, 5), Due.LOW - Due.PARTED);
        due.is("another voice of the same", x.voice(1, 0, 5), 2);
        due.is("its trace", Due.trace(x), "[20, 10]");
        due.is("parts of one who isn't parted", x.voice(0, 3, 7), 2);
        x.become(1, 13);
        due.is("with another m", x.voice(1, 3, 6), 3 + (1 + 1 - 4) * 2);
        due.is("the trace of that", Due.trace(x), "[21, 13, 11, 20, 10]");
    }

    private static long spokenAndParted(DirtPress x) {
        spoken(x);
        return x.voice(1, 3, 5);
    }

    private static void beyondBehindParted() {
        due.error("nobody's voice", VoicesTest::spokenAndParted, x -> x.voice(3, 0, 1), Due.BEYOND);
        due.error("no such voice", VoicesTest::spokenAndParted, x -> x.voice(0, 4, 1), Due.BEYOND);
        DirtPress x = new DirtPress();
        spokenAndParted(x);
        x.voice(3, 3, 1);
        due.is("the trace stays that of the parted voice", Due.trace(x), "[21, 13]");
    }

    private static void wrong() {
        due.error("voice(3, 0, 1)", VoicesTest::spoken, x -> x.voice(3, 0, 1), Due.BEYOND);
        due.error("voice(-1, 0, 1)", VoicesTest::spoken, x -> x.voice(-1, 0, 1), Due.BEYOND);
        due.error("voice(0, 4, 1)", VoicesTest::spoken, x -> x.voice(0, 4, 1), Due.BEYOND);
        due.error("voice(1, -1, 1)", VoicesTest::spoken, x -> x.voice(1, -1, 1), Due.BEYOND);
        due.error("body(3)", VoicesTest::spoken, x -> x.body(3), Due.NONE);
        due.error("body(-1)", VoicesTest::spoken, x -> x.body(-1), Due.NONE);
        due.error("body(30)", VoicesTest::spoken, x -> x.body(30), Due.NONE);
    }
}
