/** The edges of promises 29 to 35: VOICES and THE TRACE, SHEETS, and what becomes of their numbers. */
public final class EdgesOfSheetsTest {
    private static final Due due = new Due("EdgesOfSheetsTest");
    private static final int LAST = 3;
    private static final int MAX = Integer.MAX_VALUE;
    private static final int MIN = Integer.MIN_VALUE;

    public static void main(String[] args) {
        voice();
        voiceWraps();
        parted();
        body();
        sheet();
        sheetAnew();
        put();
        lowestBits();
        move();
        moveOrder();
        moveStands();
        moveAll();
        spoons();
        spoonsUpTo();
        judge();
        judgeUpTo();
        due.end();
    }

    private static void voice() {
        due.range("29, voice: person", States::rich, (x, v) -> x.voice(v, 0, 1), 0, LAST);
        due.range("29, voice: voice", States::rich, (x, v) -> x.voice(0, v, 1), 0, 3);
        due.error("29, voice: nobody yet", States::nothing, x -> x.voice(0, 0, 1), Due.BEYOND);
        due.error("29, voice: BEYOND ahead of PARTED, person 1", x -> x.person(0), x -> x.voice(1, 3, 1), Due.BEYOND);
        due.error("29, voice: BEYOND ahead of PARTED, voice 4", x -> x.person(0), x -> x.voice(0, 4, 1), Due.BEYOND);
        due.edge("29, voice: any number is no ERROR", States::one, x -> x.voice(0, 0, -1000000001) + x.told(1),
            -1000000001);
        due.edge("29, voice: an answer like PARTED is none", States::one, x -> x.voice(0, 0, -1000000006),
            x -> x.told(6), 0);
        due.edge("29, voice: k is the number of the last", States::eight, x -> x.voice(7, 0, 0), 7);
        due.edge("29, voice: m as told now", x -> x.person(5), x -> x.become(0, 9), x -> x.voice(0, 2, 0), -9);
        due.edge("29, voice: the KIND as it is now", x -> x.person(5), x -> x.become(0, 65), x -> x.voice(0, 0, 0), 9);
    }

    private static void voiceWraps() {
        due.edge("29, voice: washes wraps", x -> x.person(0) + x.person(0), x -> x.voice(1, 0, MAX), MIN);
        due.edge("29, voice: wrings wraps", x -> x.person(0), x -> x.voice(0, 1, MAX), -2);
        due.edge("29, voice: wrings of the least wraps", x -> x.person(0), x -> x.voice(0, 1, MIN), 0);
        due.edge("29, voice: airs wraps", x -> x.person(3), x -> x.voice(0, 2, 1 << 30), MAX - 2);
        due.edge("29, voice: a BISHOP's washes wraps", x -> x.person(10), x -> x.voice(0, 0, MIN), MAX - 3);
        due.edge("29, voice: a SWEEP's wrings wraps", x -> x.person(20), x -> x.voice(0, 1, 1 << 30), MIN);
        due.edge("29, voice: an ABBOT's washes wraps", x -> x.person(40), x -> x.voice(0, 0, MAX), (MAX - 4) * 3);
        due.edge("29, voice: a DUSTER's x + 1 wraps", x -> x.person(50), x -> x.voice(0, 1, MAX), 0);
        due.edge("29, voice: a FOUNDLING washes 9", x -> x.person(60), x -> x.voice(0, 0, MIN), 9);
        due.edge("29, voice: parts the least by -1", x -> x.person(0) + x.person(0), x -> x.voice(1, 3, MIN), MIN);
        due.edge("29, voice: a BISHOP's parts wraps", x -> x.person(12) + x.person(13), x -> x.voice(1, 3, MIN),
            MIN / 2 - 4);
        due.edge("29, voice: an INKER airs the least", x -> x.person(30), x -> x.voice(0, 2, MIN), MIN);
        due.edge("29, voice: an INKER airs the most, cut", x -> x.person(30), x -> x.voice(0, 2, MAX), MAX - 1);
    }

    private static void parted() {
        due.edge("29, voice: parts by 1", States::one, x -> x.voice(0, 3, 7), 7);
        due.parted("29, voice: parts by 0", x -> x.person(0), x -> x.voice(0, 3, 7), 13);
        due.edge("29, voice: parts by -1", x -> x.person(0) + x.person(0), x -> x.voice(1, 3, 7), -7);
        due.parted("29, voice: 0 by 0, too", x -> x.person(0), x -> x.voice(0, 3, 0), 13);
        due.parted("29, voice: parts by 7 - 7", States::eight, x -> x.voice(7, 3, 5), 13);
        for (int kind = 0; kind < 7; kind++) {
            int km = kind * 10;
            int[] bodies = kind == 1 || kind == 4 ? new int[] {21, 13} : new int[] {13};
            due.parted("29, voice: KIND " + kind + " parts by 0", x -> x.person(km), x -> x.voice(0, 3, 5), bodies);
        }
        due.parted("29, voice: PARTED when all is full", x -> States.full(x) + x.become(0, 0), x -> x.voice(0, 3, 5),
            13);
        due.edge("29, voice: a voice behind a PARTED one answers", x -> x.person(0) + x.voice(0, 3, 5),
            x -> x.voice(0, 0, 5), 5);
        due.edge("29, voice: m - k as told now", x -> x.person(0) + x.voice(0, 3, 5), x -> x.become(0, 1),
            x -> x.voice(0, 3, 5), 5);
    }

    private static void body() {
        due.letsIn("30, body: i 0", States::rich, x -> x.body(0));
        due.letsIn("30, body: the last", States::rich, x -> x.body(5));
        due.error("30, body: i -1", States::rich, x -> x.body(-1), Due.NONE);
        due.error("30, body: one behind the last", States::rich, x -> x.body(6), Due.NONE);
        due.error("30, body: i 29", States::rich, x -> x.body(29), Due.NONE);
        due.error("30, body: i 30", States::rich, x -> x.body(30), Due.NONE);
        due.error("30, body: the least i", States::rich, x -> x.body(MIN), Due.NONE);
        due.error("30, body: the most i", States::rich, x -> x.body(MAX), Due.NONE);
        due.error("30, body: no voice() yet", States::one, x -> x.body(0), Due.NONE);
        due.edge("30, body: as they began, the first", States::rich, x -> x.body(0), 51);
        due.edge("30, body: as they began, the last", States::rich, x -> x.body(5), 10);
        due.edge("30, body: what stands left is worked out first", x -> x.person(13), x -> x.voice(0, 3, 9),
            x -> x.body(1) * 10000 + x.body(2) * 100 + x.body(3), 131120);
        due.error("30, body: a shorter voice() leaves none of a longer one", x -> States.rich(x) + x.voice(0, 0, 1),
            x -> x.body(1), Due.NONE);
        due.edge("30, body: of the latest voice()", x -> States.rich(x) + x.voice(0, 0, 1), x -> x.body(0), 10);
        due.edge("30, body: BEYOND leaves THE TRACE, person 4", x -> States.rich(x) + x.voice(4, 0, 1),
            x -> x.count(4), 6);
        due.edge("30, body: BEYOND leaves THE TRACE, voice 4", x -> States.rich(x) + x.voice(0, 4, 1), x -> x.count(4),
            6);
        due.edge("30, body: the longest TRACE", x -> x.person(40), x -> x.voice(0, 2, 1), x -> x.count(4), 6);
    }

    private static void sheet() {
        due.range("31, sheet: sheet", States::rich, (x, v) -> x.sheet(v, 8, 1), 0, 3);
        due.range("31, sheet: sheet that becomes missing", States::rich, (x, v) -> x.sheet(v, 0, 1), 0, 3);
        for (int bits : new int[] {0, 8, 16, 32}) {
            due.edge("31, sheet: bits " + bits, States::rich, x -> x.sheet(3, bits, 1), 1);
        }
        for (int bits : new int[] {-8, -1, 1, 7, 9, 15, 17, 24, 31, 33, 64, MIN, MAX}) {
            due.error("31, sheet: bits " + bits, States::rich, x -> x.sheet(0, bits, 1), Due.BEYOND);
        }
        for (int bits : new int[] {8, 16, 32}) {
            due.edge("31, sheet: no numbers of " + bits + " bits", States::rich, x -> x.sheet(0, bits, 0), 1);
            due.edge("31, sheet: 24 numbers of " + bits + " bits", States::rich, x -> x.sheet(0, bits, 24), 1);
            due.error("31, sheet: 25 numbers of " + bits + " bits", States::rich, x -> x.sheet(0, bits, 25),
                Due.BEYOND);
            due.error("31, sheet: -1 numbers of " + bits + " bits", States::rich, x -> x.sheet(0, bits, -1), Due.STATE);
        }
        due.error("31, sheet: the most numbers", States::rich, x -> x.sheet(0, 8, MAX), Due.BEYOND);
        due.error("31, sheet: the least numbers", States::rich, x -> x.sheet(0, 8, MIN), Due.STATE);
        due.error("31, sheet: BEYOND of sheet ahead of STATE", States::rich, x -> x.sheet(4, 8, -1), Due.BEYOND);
        due.error("31, sheet: BEYOND of bits ahead of STATE", States::rich, x -> x.sheet(0, 7, -1), Due.BEYOND);
        for (int n : new int[] {-1, 25, MIN, MAX}) {
            due.edge("31, sheet: missing, n doesn't matter, " + n, States::rich, x -> x.sheet(0, 0, n), 1);
        }
    }

    private static void sheetAnew() {
        due.error("31, sheet: it is missing", x -> States.rich(x) + x.sheet(0, 0, 5), x -> x.spoons(0, 0), Due.NONE);
        due.edge("31, sheet: missing already", States::rich, x -> x.sheet(3, 0, 0), 1);
        due.edge("31, sheet: of no numbers it is not missing", x -> States.rich(x) + x.sheet(3, 8, 0),
            x -> x.spoons(0, 3), 0);
        due.edge("31, sheet: all 0", States::rich, x -> x.sheet(0, 8, 5) + x.spoons(0, 0), x -> x.personIs(0, 4), 0);
        due.edge("31, sheet: all 0 behind a missing one", States::rich,
            x -> x.sheet(0, 0, 5) + x.sheet(0, 8, 5) + x.spoons(0, 0), x -> x.personIs(0, 4), 0);
        due.edge("31, sheet: the 24th is 0", States::full,
            x -> x.sheet(0, 8, 24) + x.move(0, 23, 0, 0, 1) + x.spoons(0, 0), x -> x.hold(0, 0), 0);
        due.edge("31, sheet: another one keeps its numbers", States::rich, x -> x.sheet(0, 8, 5) + x.spoons(0, 2),
            x -> x.hold(0, 0), 31);
    }

    private static void put() {
        due.range("32, put: sheet", x -> States.rich(x) + x.sheet(3, 8, 1), (x, v) -> x.put(v, 0, 1), 0, 3);
        due.range("32, put: i of 5", States::rich, (x, v) -> x.put(0, v, 1), 0, 4);
        due.range("32, put: i of 24", States::full, (x, v) -> x.put(0, v, 1), 0, 23);
        due.edge("32, put: 1", States::rich, x -> x.put(0, 4, 99), 1);
        due.edge("32, put: 1 for the number that stands there", States::rich, x -> x.put(0, 0, 11), 1);
        due.error("32, put: NONE", States::rich, x -> x.put(3, 0, 1), Due.NONE);
        due.error("32, put: NONE of one that was there", x -> States.rich(x) + x.sheet(0, 0, 0), x -> x.put(0, 0, 1),
            Due.NONE);
        due.error("32, put: no number of none", x -> States.rich(x) + x.sheet(3, 8, 0), x -> x.put(3, 0, 1),
            Due.BEYOND);
        due.error("32, put: BEYOND of sheet ahead of NONE", States::nothing, x -> x.put(4, 0, 1), Due.BEYOND);
        due.error("32, put: NONE ahead of BEYOND of i -1", States::rich, x -> x.put(3, -1, 1), Due.NONE);
        due.error("32, put: NONE ahead of BEYOND of i 24", States::rich, x -> x.put(3, 24, 1), Due.NONE);
        due.edge("32, put: the number ahead stays", States::rich, x -> x.put(0, 1, 9) + x.spoons(0, 0),
            x -> x.hold(0, 0), 11);
        due.edge("32, put: the number behind stays", States::rich, x -> x.put(0, 1, 9) + x.spoons(0, 0),
            x -> x.hold(0, 2), 13);
        due.edge("32, put: another SHEET's stays", States::rich, x -> x.put(0, 0, 9) + x.spoons(0, 2),
            x -> x.hold(0, 0), 31);
    }

    /** What a SHEET's first number is behind a put, seen as SPOONS; -1: it is not 0 to 99. */
    private static void bits(int bits, int v, int want) {
        due.edge("32, put: " + v + " in " + bits + " bits", x -> x.person(0) + x.sheet(0, bits, 1) + x.put(0, 0, v),
            x -> x.spoons(0, 0) == 0 ? -1 : x.hold(0, 0), want);
    }

    private static void judged(int bits, int v, int want) {
        due.edge("32, put: " + v + " in " + bits + " bits, judged", x -> {
            x.person(0);
            Due.set(x, 0, Math.min(99, v), Math.min(99, v - Math.min(99, v)), Math.max(0, v - 198));
            x.sheet(0, bits, 1);
            return x.put(0, 0, v);
        }, x -> x.judge(0), want);
    }

    private static void lowestBits() {
        for (int bits : new int[] {8, 16, 32}) {
            bits(bits, 0, 0);
            bits(bits, 99, 99);
            bits(bits, 100, -1);
            bits(bits, -1, -1);
            bits(bits, MAX, -1);
            judged(bits, 127, 1);
        }
        bits(32, MIN, -1);
        bits(16, MIN, 0);
        bits(8, MIN, 0);
        bits(8, 255, -1);
        bits(8, 256, 0);
        bits(8, 256 + 99, 99);
        bits(8, -255, 1);
        bits(16, 256, -1);
        bits(16, 65535, -1);
        bits(16, 65536, 0);
        bits(16, 65536 + 99, 99);
        bits(16, -65535, 1);
        bits(32, 65536, -1);
        judged(8, 128, 0);
        judged(16, 128, 1);
        judged(16, 255, 1);
        judged(32, 255, 1);
    }

    private static long fives(DirtPress x) {
        States.rich(x);
        Due.row(x, 1, 8, 1, 2, 3, 4, 5);
        return Due.row(x, 3, 8, 6, 7, 8, 9, 10);
    }

    private static void move() {
        due.range("33, move: sheet", EdgesOfSheetsTest::fives, (x, v) -> x.move(v, 0, 1, 0, 1), 0, 3);
        due.range("33, move: other", EdgesOfSheetsTest::fives, (x, v) -> x.move(1, 0, v, 0, 1), 0, 3);
        due.range("33, move: n", EdgesOfSheetsTest::fives, (x, v) -> x.move(0, 0, 1, 0, v), 0, 5);
        due.range("33, move: n of the same", EdgesOfSheetsTest::fives, (x, v) -> x.move(0, 0, 0, 0, v), 0, 5);
        due.range("33, move: n of 24", States::full, (x, v) -> x.move(1, 0, 2, 0, v), 0, 24);
        due.range("33, move: i for 1", EdgesOfSheetsTest::fives, (x, v) -> x.move(0, v, 1, 0, 1), 0, 4);
        due.range("33, move: j for 1", EdgesOfSheetsTest::fives, (x, v) -> x.move(0, 0, 1, v, 1), 0, 4);
        due.range("33, move: i for 0", EdgesOfSheetsTest::fives, (x, v) -> x.move(0, v, 1, 0, 0), 0, 5);
        due.range("33, move: j for 0", EdgesOfSheetsTest::fives, (x, v) -> x.move(0, 0, 1, v, 0), 0, 5);
        due.range("33, move: i for 5", EdgesOfSheetsTest::fives, (x, v) -> x.move(0, v, 1, 0, 5), 0, 0);
        due.range("33, move: j for 5", EdgesOfSheetsTest::fives, (x, v) -> x.move(0, 0, 1, v, 5), 0, 0);
        due.edge("33, move: none of none", x -> x.sheet(0, 8, 0) + x.sheet(1, 8, 0), x -> x.move(0, 0, 1, 0, 0), 0);
        due.error("33, move: one of none", x -> x.sheet(0, 8, 0) + x.sheet(1, 8, 3), x -> x.move(0, 0, 1, 0, 1),
            Due.BEYOND);
        due.error("33, move: one to none", x -> x.sheet(0, 8, 0) + x.sheet(1, 8, 3), x -> x.move(1, 0, 0, 0, 1),
            Due.BEYOND);
    }

    private static void moveOrder() {
        due.error("33, move: NONE, from a missing one", States::rich, x -> x.move(3, 0, 0, 0, 1), Due.NONE);
        due.error("33, move: NONE, to a missing one", States::rich, x -> x.move(0, 0, 3, 0, 1), Due.NONE);
        due.error("33, move: NONE, a missing one to itself", States::rich, x -> x.move(3, 0, 3, 0, 0), Due.NONE);
        due.error("33, move: NONE, nothing from a missing one", States::rich, x -> x.move(3, 0, 0, 0, 0), Due.NONE);
        due.error("33, move: KIND, 8 and 16 bits", States::rich, x -> x.move(0, 0, 1, 0, 1), Due.KIND);
        due.error("33, move: KIND, 16 and 8 bits", States::rich, x -> x.move(1, 0, 0, 0, 1), Due.KIND);
        due.error("33, move: KIND, 16 and 32 bits", x -> States.rich(x) + x.sheet(3, 32, 1),
            x -> x.move(1, 0, 3, 0, 1), Due.KIND);
        due.error("33, move: KIND, nothing of unlike bits", States::rich, x -> x.move(0, 0, 1, 0, 0), Due.KIND);
        due.error("33, move: BEYOND of sheet ahead of NONE", States::rich, x -> x.move(4, 0, 3, 0, 1), Due.BEYOND);
        due.error("33, move: BEYOND of other ahead of NONE", States::rich, x -> x.move(3, 0, -1, 0, 1), Due.BEYOND);
        due.error("33, move: NONE ahead of BEYOND of n", States::rich, x -> x.move(3, 0, 0, 0, -1), Due.NONE);
        due.error("33, move: NONE ahead of BEYOND of i", States::rich, x -> x.move(0, -1, 3, 0, 1), Due.NONE);
        due.error("33, move: KIND ahead of BEYOND of n -1", States::rich, x -> x.move(0, 0, 1, 0, -1), Due.KIND);
        due.error("33, move: KIND ahead of BEYOND of i -1", States::rich, x -> x.move(0, -1, 1, 0, 1), Due.KIND);
        due.error("33, move: KIND ahead of BEYOND of j -1", States::rich, x -> x.move(0, 0, 1, -1, 1), Due.KIND);
        due.error("33, move: KIND ahead of what doesn't stand there", States::rich, x -> x.move(0, 0, 1, 0, 9),
            Due.KIND);
    }

    private static void moveStands() {
        due.edge("33, move: the last of the SHEET", EdgesOfSheetsTest::fives, x -> x.move(0, 3, 1, 0, 2), 2);
        due.error("33, move: one behind the last of the SHEET", EdgesOfSheetsTest::fives, x -> x.move(0, 3, 1, 0, 3),
            Due.BEYOND);
        due.edge("33, move: the last of the other", EdgesOfSheetsTest::fives, x -> x.move(0, 0, 1, 3, 2), 2);
        due.error("33, move: one behind the last of the other", EdgesOfSheetsTest::fives, x -> x.move(0, 0, 1, 3, 3),
            Due.BEYOND);
        due.error("33, move: the other is shorter", EdgesOfSheetsTest::fives, x -> x.move(0, 0, 2, 0, 4), Due.BEYOND);
        due.error("33, move: the other is longer", EdgesOfSheetsTest::fives, x -> x.move(2, 0, 0, 0, 4), Due.BEYOND);
        due.error("33, move: i and n wrap", EdgesOfSheetsTest::fives, x -> x.move(0, MAX, 1, 0, 2), Due.BEYOND);
        due.error("33, move: j and n wrap", EdgesOfSheetsTest::fives, x -> x.move(0, 0, 1, MAX, 2), Due.BEYOND);
        due.error("33, move: the most of all", EdgesOfSheetsTest::fives, x -> x.move(0, MAX, 1, MAX, MAX), Due.BEYOND);
        due.error("33, move: the most from the second", EdgesOfSheetsTest::fives, x -> x.move(0, 1, 0, 1, MAX),
            Due.BEYOND);
        due.error("33, move: i -1 for 0", EdgesOfSheetsTest::fives, x -> x.move(0, -1, 1, 0, 0), Due.BEYOND);
        due.error("33, move: j -1 for 0", EdgesOfSheetsTest::fives, x -> x.move(0, 0, 1, -1, 0), Due.BEYOND);
    }

    /** The first five numbers of a SHEET as SPOONS, read as one number of two digits each. */
    private static long five(DirtPress x, int sheet) {
        x.spoons(0, sheet);
        long all = 0;
        for (int sort = 0; sort < 5; sort++) {
            all = all * 100 + x.hold(0, sort);
        }
        return all;
    }

    private static void moveAll() {
        due.edge("33, move: as they all were, one up", EdgesOfSheetsTest::fives, x -> x.move(1, 0, 1, 1, 4),
            x -> five(x, 1), 101020304L);
        due.edge("33, move: as they all were, one down", EdgesOfSheetsTest::fives, x -> x.move(1, 1, 1, 0, 4),
            x -> five(x, 1), 203040505L);
        due.edge("33, move: as they all were, two up", EdgesOfSheetsTest::fives, x -> x.move(1, 0, 1, 2, 3),
            x -> five(x, 1), 102010203L);
        due.edge("33, move: to themselves", EdgesOfSheetsTest::fives, x -> x.move(1, 0, 1, 0, 5), x -> five(x, 1),
            102030405L);
        due.edge("33, move: none changes none", EdgesOfSheetsTest::fives, x -> x.move(1, 0, 3, 0, 0), x -> five(x, 3),
            607080910L);
        due.edge("33, move: all to another one", EdgesOfSheetsTest::fives, x -> x.move(1, 0, 3, 0, 5), x -> five(x, 3),
            102030405L);
        due.edge("33, move: some to another one", EdgesOfSheetsTest::fives, x -> x.move(1, 0, 3, 2, 2),
            x -> five(x, 3), 607010210L);
        due.edge("33, move: those that come from there stay", EdgesOfSheetsTest::fives, x -> x.move(1, 0, 3, 2, 2),
            x -> five(x, 1), 102030405L);
        due.edge("33, move: from number i on", EdgesOfSheetsTest::fives, x -> x.move(1, 3, 3, 0, 2), x -> five(x, 3),
            405080910L);
    }

    private static void spoons() {
        due.range("34, spoons: person", States::rich, (x, v) -> x.spoons(v, 0), 0, LAST);
        due.range("34, spoons: sheet", EdgesOfSheetsTest::fives, (x, v) -> x.spoons(0, v), 0, 3);
        due.error("34, spoons: nobody yet", x -> x.sheet(0, 8, 1), x -> x.spoons(0, 0), Due.BEYOND);
        due.error("34, spoons: NONE", States::rich, x -> x.spoons(0, 3), Due.NONE);
        due.error("34, spoons: BEYOND of person ahead of NONE", States::rich, x -> x.spoons(4, 3), Due.BEYOND);
        due.error("34, spoons: BEYOND of sheet ahead of NONE", States::rich, x -> x.spoons(0, 4), Due.BEYOND);
        due.edge("34, spoons: none of none", x -> x.person(0) + x.sheet(0, 8, 0), x -> x.spoons(0, 0), 0);
        due.edge("34, spoons: one", x -> x.person(0) + Due.row(x, 0, 8, 7), x -> x.spoons(0, 0), 1);
        due.edge("34, spoons: five", EdgesOfSheetsTest::fives, x -> x.spoons(0, 1), 5);
        due.edge("34, spoons: five of six, for which there are SORTS", x -> x.person(0) + x.sheet(0, 8, 6),
            x -> x.spoons(0, 0), 5);
        due.edge("34, spoons: five of 24", States::full, x -> x.spoons(7, 0), 5);
        due.edge("34, spoons: the sixth is nobody's", x -> States.two(x) + Due.row(x, 0, 8, 1, 1, 1, 1, 1, 9, 9),
            x -> x.spoons(0, 0), x -> x.personIs(1, 4), 0);
        due.edge("34, spoons: SORTS that aren't told stay", States::rich, x -> x.spoons(0, 2), x -> x.hold(0, 3), 99);
    }

    private static void upTo(String edge, int want, int... numbers) {
        due.edge("34, spoons: " + edge, x -> x.person(0) + Due.row(x, 0, 16, numbers), x -> x.spoons(0, 0), want);
    }

    private static void spoonsUpTo() {
        upTo("0 is let in", 2, 0, 1);
        upTo("-1 is not", 0, -1, 1);
        upTo("99 is let in", 2, 99, 1);
        upTo("100 is not", 0, 100, 1);
        upTo("up to the fifth", 4, 1, 2, 3, 4, 100);
        upTo("up to the first of two", 1, 1, -1, 3, 100);
        for (int k = 1; k <= 6; k++) {
            int of = k;
            due.edge("34, spoons: no ERROR then, k " + k, x -> x.person(0) + Due.row(x, 0, 16, 1, 100),
                x -> x.spoons(0, 0), x -> x.told(of), 0);
        }
        due.edge("34, spoons: those ahead are taken", States::rich, x -> x.put(0, 1, 100) + x.spoons(0, 0),
            x -> x.hold(0, 0), 11);
        due.edge("34, spoons: the one that isn't stays", States::rich, x -> x.put(0, 1, 100) + x.spoons(0, 0),
            x -> x.hold(0, 1), 1);
        due.edge("34, spoons: those behind stay", States::rich, x -> x.put(0, 1, 100) + x.spoons(0, 0),
            x -> x.hold(0, 3), 99);
        due.edge("34, spoons: the SHEET stays", States::rich, x -> x.spoons(0, 0) + x.spoons(1, 0), x -> x.hold(1, 0),
            11);
    }

    private static void judge() {
        due.range("35, judge: sheet", EdgesOfSheetsTest::fives, (x, v) -> x.judge(v), 0, 3);
        due.error("35, judge: NONE", States::rich, x -> x.judge(3), Due.NONE);
        due.error("35, judge: BEYOND ahead of NONE, of a new object", States::nothing, x -> x.judge(4), Due.BEYOND);
        due.edge("35, judge: none of none", x -> x.person(0) + x.sheet(0, 8, 0), x -> x.judge(0), 0);
        due.edge("35, judge: nobody", x -> x.sheet(0, 8, 1), x -> x.judge(0), 0);
    }

    private static void judgeUpTo(String edge, int want, int... numbers) {
        due.edge("35, judge: " + edge, x -> {
            States.people(x, 3);
            Due.set(x, 1, 99, 99, 99, 99, 99);
            Due.set(x, 2, 1, 0, 0, 0, 1);
            return Due.row(x, 0, 16, numbers);
        }, x -> x.judge(0), want);
    }

    private static void judgeUpTo() {
        judgeUpTo("all three", 3, 0, 495, 2);
        judgeUpTo("those that are told", 2, 0, 495);
        judgeUpTo("nobody is the fourth", 3, 0, 495, 2, 0);
        judgeUpTo("the first is one too many", 0, 1, 495, 2);
        judgeUpTo("the first is one too few", 0, -1, 495, 2);
        judgeUpTo("the second is one too few", 1, 0, 494, 2);
        judgeUpTo("the second is one too many", 1, 0, 496, 2);
        judgeUpTo("the last is off", 2, 0, 495, 3);
        judgeUpTo("what is right behind a wrong one doesn't count", 0, 5, 495, 2);
        due.edge("35, judge: all eight", x -> {
            States.full(x);
            return Due.row(x, 1, 16, 495, 495, 495, 495, 495, 495, 495, 495);
        }, x -> x.judge(1), 8);
        due.edge("35, judge: SPOONS, not WORTH", x -> States.one(x) + Due.text(x, 1, "7") + Due.row(x, 0, 8, 0),
            x -> x.judge(0), 1);
    }
}
