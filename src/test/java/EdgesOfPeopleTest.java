/** The edges of promises 1 to 12: what is let in, what is not, in which order ERRORS are asked, what stays. */
public final class EdgesOfPeopleTest {
    private static final Due due = new Due("EdgesOfPeopleTest");
    private static final int LAST = 3;

    public static void main(String[] args) {
        aNewObject();
        person();
        child();
        childOf();
        personIs();
        become();
        as();
        hold();
        spoon();
        gain();
        lend();
        lendStates();
        repay();
        repayStates();
        owes();
        due.end();
    }

    private static void aNewObject() {
        due.edge("1: no PEOPLE", States::nothing, x -> x.count(0), 0);
        due.error("1: nobody is 0", States::nothing, x -> x.personIs(0, 0), Due.BEYOND);
        due.edge("1: YEAR 0", States::nothing, x -> x.count(1), 0);
        due.edge("1: THE TAPE is empty", States::nothing, x -> x.count(2), 0);
        due.edge("1: no number waits", States::nothing, x -> x.count(3), 0);
        due.edge("1: THE TRACE is empty", States::nothing, x -> x.count(4), 0);
        due.error("1: no BODY", States::nothing, x -> x.body(0), Due.NONE);
        due.edge("1: no TEXT of USE 0", States::nothing, x -> x.untell(0), 0);
        due.edge("1: no TEXT of USE 1", States::nothing, x -> x.untell(1), 0);
        due.error("1: no IMAGE", States::nothing, x -> x.restore(), Due.NONE);
        due.edge("1: no IMAGE was made", States::nothing, x -> x.image(), 1);
        for (int k = 1; k <= 6; k++) {
            int of = k;
            due.edge("1: no ERROR is told, k " + k, States::nothing, x -> x.told(of), 0);
        }
        due.edge("1: one object knows nothing of another", States::full, x -> new DirtPress().count(0), 0);
        due.edge("1: nor has it its IMAGE", States::full, x -> new DirtPress().restore(), Due.LOW - Due.NONE);
    }

    private static void person() {
        due.range("2, person: km", States::rich, (x, v) -> x.person(v), 0, 69);
        due.error("2, person: FULL", States::full, x -> x.person(0), Due.FULL);
        due.error("2, person: BEYOND ahead of FULL, km 70", States::full, x -> x.person(70), Due.BEYOND);
        due.error("2, person: BEYOND ahead of FULL, km -1", States::full, x -> x.person(-1), Due.BEYOND);
        due.edge("2, person: the number", States::rich, x -> x.person(0), 4);
        due.edge("2, person: without a FATHER", States::rich, x -> x.personIs(x.person(0), 2), -1);
        due.edge("2, person: without a MOTHER", States::rich, x -> x.personIs(x.person(0), 3), -1);
        due.edge("2, person: FROM nobody", States::rich, x -> x.personIs(x.person(0), 6), 0);
        due.edge("2, person: without SPOONS", States::rich, x -> x.personIs(x.person(0), 4), 0);
        due.edge("2, person: also where one stood that the IMAGE hasn't", x -> {
            States.rich(x);
            x.restore();
            return 0;
        }, x -> x.personIs(x.person(0), 4) + x.personIs(2, 6) + x.owes(2, 0) + x.owes(0, 2), 0);
        due.edge("2, person: nor is anything owed by a later one", x -> States.rich(x) + x.restore() + x.person(0),
            x -> x.owes(x.person(0), 0) + x.owes(0, 3), 0);
    }

    private static void child() {
        due.range("3, child: km", States::rich, (x, v) -> x.child(v, 0, 1), 0, 69);
        due.range("3, child: FATHER", States::rich, (x, v) -> x.child(0, v, 1), 0, LAST);
        due.range("3, child: MOTHER", States::rich, (x, v) -> x.child(0, 1, v), 0, LAST);
        due.error("3, child: one and the same", States::rich, x -> x.child(0, 1, 1), Due.BEYOND);
        due.error("3, child: of none, -1 and -1", States::rich, x -> x.child(0, -1, -1), Due.BEYOND);
        due.error("3, child: of oneself", States::rich, x -> x.child(0, 1, 4), Due.BEYOND);
        due.error("3, child: of nobody yet", States::nothing, x -> x.child(0, 0, 1), Due.BEYOND);
        due.error("3, child: of one alone", States::one, x -> x.child(0, 0, 1), Due.BEYOND);
        due.error("3, child: FULL", States::full, x -> x.child(0, 0, 1), Due.FULL);
        due.error("3, child: BEYOND ahead of FULL, km 70", States::full, x -> x.child(70, 0, 1), Due.BEYOND);
        due.error("3, child: BEYOND ahead of FULL, FATHER 8", States::full, x -> x.child(0, 8, 1), Due.BEYOND);
        due.error("3, child: BEYOND ahead of FULL, MOTHER -1", States::full, x -> x.child(0, 0, -1), Due.BEYOND);
        due.error("3, child: BEYOND ahead of FULL, the same", States::full, x -> x.child(0, 7, 7), Due.BEYOND);
    }

    private static void childOf() {
        due.edge("3, child: of two alone", States::two, x -> x.child(0, 1, 0), 2);
        due.edge("3, child: its FATHER", States::rich, x -> x.personIs(x.child(0, LAST, 0), 2), LAST);
        due.edge("3, child: its MOTHER", States::rich, x -> x.personIs(x.child(0, LAST, 0), 3), 0);
        due.edge("3, child: its KIND", States::rich, x -> x.personIs(x.child(69, LAST, 0), 0), 6);
        due.edge("3, child: its m", States::rich, x -> x.personIs(x.child(69, LAST, 0), 1), 9);
        for (int sort = 0; sort < 5; sort++) {
            int s = sort;
            due.edge("3, child: the FATHER keeps SPOONS of SORT " + s, States::rich,
                x -> x.hold(LAST, s) - x.child(0, LAST, 0) - x.hold(LAST, s), -4);
            due.edge("3, child: the MOTHER keeps SPOONS of SORT " + s, States::rich,
                x -> x.hold(0, s) - x.child(0, LAST, 0) - x.hold(0, s), -4);
            due.edge("3, child: has half of SORT " + s, States::rich,
                x -> (x.hold(0, s) + x.hold(LAST, s)) / 2 - x.hold(x.child(0, LAST, 0), s), 0);
        }
    }

    private static void personIs() {
        due.range("4, personIs: person", States::rich, (x, v) -> x.personIs(v, 0), 0, LAST);
        due.range("4, personIs: what", States::rich, (x, v) -> x.personIs(0, v), 0, 6);
        due.error("4, personIs: nobody yet", States::nothing, x -> x.personIs(0, 4), Due.BEYOND);
        due.edge("4, personIs: FATHER 0", x -> States.two(x) + x.child(0, 0, 1), x -> x.personIs(2, 2), 0);
        due.edge("4, personIs: MOTHER 0", x -> States.two(x) + x.child(0, 1, 0), x -> x.personIs(2, 3), 0);
        due.edge("4, personIs: no FATHER is -1, no ERROR", States::one, x -> x.personIs(0, 2) + x.told(1), -1);
        due.edge("4, personIs: SPOONS of none", States::one, x -> x.personIs(0, 4), 0);
        due.edge("4, personIs: SPOONS of all there can be", States::full, x -> x.personIs(7, 4), 495);
        due.edge("4, personIs: WORTH of none", States::one, x -> x.personIs(0, 5), 0);
        due.edge("4, personIs: WORTH of all there can be", x -> States.full(x) + x.untell(1), x -> x.personIs(7, 5),
            495);
        due.edge("4, personIs: FROM nobody", States::one, x -> x.personIs(0, 6), 0);
        due.edge("4, personIs: FROM two", x -> States.two(x) + x.child(0, 0, 1), x -> x.personIs(2, 6), 3);
        due.edge("4, personIs: FROM all seven", x -> {
            States.two(x);
            for (int one = 2; one < 8; one++) {
                x.child(0, one - 1, one - 2);
            }
            return 0;
        }, x -> x.personIs(7, 6), 127);
        due.edge("4, personIs: FROM one twice is once", x -> States.two(x) + x.child(0, 0, 1) + x.child(0, 2, 1),
            x -> x.personIs(3, 6), 7);
    }

    private static void become() {
        due.range("5, become: person", States::rich, (x, v) -> x.become(v, 69), 0, LAST);
        due.range("5, become: km", States::rich, (x, v) -> x.become(0, v), 0, 69);
        due.error("5, become: nobody yet", States::nothing, x -> x.become(0, 0), Due.BEYOND);
        due.edge("5, become: the KIND that it was", States::rich, x -> x.become(2, 69), 4);
        due.edge("5, become: the same again", States::rich, x -> x.become(2, 44), 4);
        due.edge("5, become: the KIND", States::rich, x -> x.become(2, 69), x -> x.personIs(2, 0), 6);
        due.edge("5, become: m", States::rich, x -> x.become(2, 69), x -> x.personIs(2, 1), 9);
        due.edge("5, become: FATHER stays", States::rich, x -> x.become(2, 69), x -> x.personIs(2, 2), 1);
        due.edge("5, become: MOTHER stays", States::rich, x -> x.become(2, 69), x -> x.personIs(2, 3), 0);
        due.edge("5, become: SPOONS stay", States::rich, x -> x.become(2, 69), x -> x.hold(2, 3), 99);
        due.edge("5, become: what is owed stays", States::rich, x -> x.become(3, 0), x -> x.owes(3, 0), 3);
    }

    private static void as() {
        due.range("6, as: person", States::rich, (x, v) -> x.as(v, 0), 0, LAST);
        due.range("6, as: kind", x -> x.person(60), (x, v) -> x.as(0, v), 0, 6);
        due.error("6, as: nobody yet", States::nothing, x -> x.as(0, 0), Due.BEYOND);
        due.error("6, as: BEYOND ahead of KIND, kind 7", States::one, x -> x.as(0, 7), Due.BEYOND);
        due.error("6, as: BEYOND ahead of KIND, person 1", States::one, x -> x.as(1, 6), Due.BEYOND);
        String[] under = {"0", "01", "02", "03", "014", "025", "06"};
        for (int kind = 0; kind < 7; kind++) {
            int km = kind * 10 + 9;
            for (int upper = 0; upper < 7; upper++) {
                int of = upper;
                String edge = "6, as: one of KIND " + kind + " as one of " + upper;
                if (under[kind].indexOf('0' + upper) >= 0) {
                    due.edge(edge, x -> x.person(km), x -> x.as(0, of), 9);
                } else {
                    due.error(edge, x -> x.person(km), x -> x.as(0, of), Due.KIND);
                }
            }
        }
        due.edge("6, as: m 0", x -> x.person(40), x -> x.as(0, 1), 0);
    }

    private static void hold() {
        due.range("7, hold: person", States::rich, (x, v) -> x.hold(v, 0), 0, LAST);
        due.range("7, hold: sort", States::rich, (x, v) -> x.hold(0, v), 0, 4);
        due.error("7, hold: nobody yet", States::nothing, x -> x.hold(0, 0), Due.BEYOND);
        due.edge("7, hold: 0", States::one, x -> x.hold(0, 4), 0);
        due.edge("7, hold: 99", States::full, x -> x.hold(7, 4), 99);
    }

    private static void spoon() {
        due.range("8, spoon: person", States::rich, (x, v) -> x.spoon(v, 0, 5), 0, LAST);
        due.range("8, spoon: sort", States::rich, (x, v) -> x.spoon(0, v, 5), 0, 4);
        due.range("8, spoon: v", States::rich, (x, v) -> x.spoon(0, 0, v), 0, 99);
        due.error("8, spoon: nobody yet", States::nothing, x -> x.spoon(0, 0, 0), Due.BEYOND);
        due.edge("8, spoon: what they were, 0", States::one, x -> x.spoon(0, 4, 99), 0);
        due.edge("8, spoon: what they were, 99", States::full, x -> x.spoon(7, 4, 0), 99);
        due.edge("8, spoon: another SORT stays", States::rich, x -> x.spoon(0, 2, 7), x -> x.hold(0, 3), 99);
        due.edge("8, spoon: another one's stay", States::rich, x -> x.spoon(0, 3, 7) - x.hold(1, 3), 0);
    }

    private static void gain() {
        due.range("9, gain: person", States::rich, (x, v) -> x.gain(v, 0), 0, LAST);
        due.range("9, gain: sort", States::rich, (x, v) -> x.gain(0, v), 0, 4);
        due.error("9, gain: nobody yet", States::nothing, x -> x.gain(0, 0), Due.BEYOND);
        due.edge("9, gain: any number, -1", x -> x.person(50), x -> x.gain(0, 1), -1);
        due.edge("9, gain: -9", x -> x.person(0) + Due.text(x, 0, "0-99"), x -> x.gain(0, 1), -9);
        due.edge("9, gain: 9", x -> x.person(0) + Due.text(x, 0, "99"), x -> x.gain(0, 1), 9);
        due.edge("9, gain: now, in YEAR 999", x -> x.person(0) + x.year(999) + Due.text(x, 0, "y-998"),
            x -> x.gain(0, 1), 1);
        due.edge("9, gain: SPOONS stay", States::rich, x -> x.gain(3, 3), x -> x.hold(3, 3), 40);
    }

    /** Three who may lend: the first has 99 of all, the second none, the third 50; 20 are owed by the second. */
    private static long lenders(DirtPress x) {
        x.person(1);
        x.person(2);
        x.person(3);
        x.spoon(0, 0, 20);
        x.lend(0, 1, 0, 20);
        Due.set(x, 0, 99, 99, 99, 99, 99);
        Due.set(x, 1, 0, 0, 0, 0, 0);
        return Due.set(x, 2, 50, 50, 50, 50, 50);
    }

    private static void lend() {
        due.error("10, lend: from -1", EdgesOfPeopleTest::lenders, x -> x.lend(-1, 1, 0, 1), Due.BEYOND);
        due.error("10, lend: from 3", EdgesOfPeopleTest::lenders, x -> x.lend(3, 1, 0, 1), Due.BEYOND);
        due.error("10, lend: to -1", EdgesOfPeopleTest::lenders, x -> x.lend(0, -1, 0, 1), Due.BEYOND);
        due.error("10, lend: to 3", EdgesOfPeopleTest::lenders, x -> x.lend(0, 3, 0, 1), Due.BEYOND);
        due.letsIn("10, lend: from 0 to 2", EdgesOfPeopleTest::lenders, x -> x.lend(0, 2, 0, 1));
        due.letsIn("10, lend: from 2 to 1", EdgesOfPeopleTest::lenders, x -> x.lend(2, 1, 0, 1));
        due.range("10, lend: sort", EdgesOfPeopleTest::lenders, (x, v) -> x.lend(0, 1, v, 1), 0, 4);
        due.range("10, lend: n", EdgesOfPeopleTest::lenders, (x, v) -> x.lend(0, 1, 4, v), 1, 99);
        due.error("10, lend: one and the same", EdgesOfPeopleTest::lenders, x -> x.lend(2, 2, 0, 1), Due.BEYOND);
        due.error("10, lend: nobody yet", States::nothing, x -> x.lend(0, 1, 0, 1), Due.BEYOND);
        due.error("10, lend: one alone", States::one, x -> x.lend(0, 1, 0, 1), Due.BEYOND);
        due.error("10, lend: BEYOND ahead of STATE, sort 5", States::full, x -> x.lend(0, 1, 5, 1), Due.BEYOND);
        due.error("10, lend: BEYOND ahead of STATE, n 100", States::full, x -> x.lend(0, 1, 0, 100), Due.BEYOND);
        due.error("10, lend: BEYOND ahead of STATE, n 0", States::full, x -> x.lend(0, 1, 0, 0), Due.BEYOND);
        due.error("10, lend: BEYOND ahead of STATE, to 8", States::full, x -> x.lend(0, 8, 0, 1), Due.BEYOND);
        due.error("10, lend: BEYOND ahead of STATE, the same", States::full, x -> x.lend(1, 1, 0, 1), Due.BEYOND);
        due.error("10, lend: BEYOND ahead of STATE, the same that has none", EdgesOfPeopleTest::lenders,
            x -> x.lend(1, 1, 0, 1), Due.BEYOND);
    }

    private static void lendStates() {
        due.edge("10, lend: all that is there", EdgesOfPeopleTest::lenders, x -> x.lend(2, 1, 3, 50), 50);
        due.error("10, lend: one more than is there", EdgesOfPeopleTest::lenders, x -> x.lend(2, 1, 3, 51), Due.STATE);
        due.error("10, lend: of none", EdgesOfPeopleTest::lenders, x -> x.lend(1, 2, 3, 1), Due.STATE);
        due.edge("10, lend: till the other one has 99", EdgesOfPeopleTest::lenders, x -> x.lend(0, 2, 3, 49), 49);
        due.error("10, lend: the other one would have 100", EdgesOfPeopleTest::lenders, x -> x.lend(0, 2, 3, 50),
            Due.STATE);
        due.edge("10, lend: till 999 are owed", x -> lenders(x) + States.owed(x, 0, 1, 998) + x.spoon(0, 4, 2),
            x -> x.lend(0, 1, 4, 1), 999);
        due.error("10, lend: 1000 would be owed", x -> lenders(x) + States.owed(x, 0, 1, 998) + x.spoon(0, 4, 2),
            x -> x.lend(0, 1, 4, 2), Due.STATE);
        due.edge("10, lend: what is owed by another one doesn't matter",
            x -> lenders(x) + States.owed(x, 0, 1, 999) + x.spoon(0, 4, 2), x -> x.lend(0, 2, 4, 1), 1);
        due.edge("10, lend: what is owed back doesn't matter",
            x -> lenders(x) + States.owed(x, 0, 1, 999) + x.spoon(1, 4, 2) + x.spoon(0, 4, 0), x -> x.lend(1, 0, 4, 2),
            2);
        due.edge("10, lend: who lends has less", EdgesOfPeopleTest::lenders, x -> x.lend(2, 1, 3, 50),
            x -> x.hold(2, 3), 0);
        due.edge("10, lend: another SORT stays", EdgesOfPeopleTest::lenders, x -> x.lend(2, 1, 3, 50),
            x -> x.hold(2, 4), 50);
        due.edge("10, lend: the other one has more", EdgesOfPeopleTest::lenders, x -> x.lend(2, 1, 3, 50),
            x -> x.hold(1, 3), 50);
        due.edge("10, lend: so many more are owed", EdgesOfPeopleTest::lenders, x -> x.lend(0, 1, 3, 7), 27);
        due.edge("10, lend: who lends owes no more", EdgesOfPeopleTest::lenders, x -> x.lend(0, 1, 3, 7),
            x -> x.owes(0, 1), 0);
    }

    /** As lenders, but the second, who owes the first 20, has 30 of all, and the first 90. */
    private static long debtors(DirtPress x) {
        lenders(x);
        Due.set(x, 0, 90, 90, 90, 90, 90);
        return Due.set(x, 1, 30, 30, 30, 30, 5);
    }

    /** The second owes the first 99, has 99 and the first none. */
    private static long owing99(DirtPress x) {
        States.two(x);
        States.owed(x, 0, 1, 99);
        Due.set(x, 0, 0, 0, 0, 0, 0);
        return Due.set(x, 1, 99, 99, 99, 99, 99);
    }

    private static void repay() {
        due.error("11, repay: from -1", EdgesOfPeopleTest::debtors, x -> x.repay(-1, 0, 0, 1), Due.BEYOND);
        due.error("11, repay: from 3", EdgesOfPeopleTest::debtors, x -> x.repay(3, 0, 0, 1), Due.BEYOND);
        due.error("11, repay: to -1", EdgesOfPeopleTest::debtors, x -> x.repay(1, -1, 0, 1), Due.BEYOND);
        due.error("11, repay: to 3", EdgesOfPeopleTest::debtors, x -> x.repay(1, 3, 0, 1), Due.BEYOND);
        due.range("11, repay: sort", EdgesOfPeopleTest::debtors, (x, v) -> x.repay(1, 0, v, 1), 0, 4);
        due.range("11, repay: n", EdgesOfPeopleTest::owing99, (x, v) -> x.repay(1, 0, 4, v), 1, 99);
        due.error("11, repay: one and the same", EdgesOfPeopleTest::debtors, x -> x.repay(1, 1, 0, 1), Due.BEYOND);
        due.error("11, repay: nobody yet", States::nothing, x -> x.repay(0, 1, 0, 1), Due.BEYOND);
        due.error("11, repay: one alone", States::one, x -> x.repay(0, 1, 0, 1), Due.BEYOND);
        due.error("11, repay: BEYOND ahead of STATE, sort 5", States::full, x -> x.repay(1, 0, 5, 1), Due.BEYOND);
        due.error("11, repay: BEYOND ahead of STATE, n 100", States::full, x -> x.repay(1, 0, 0, 100), Due.BEYOND);
        due.error("11, repay: BEYOND ahead of STATE, n 0", States::full, x -> x.repay(1, 0, 0, 0), Due.BEYOND);
        due.error("11, repay: BEYOND ahead of STATE, to 8", States::full, x -> x.repay(1, 8, 0, 1), Due.BEYOND);
        due.error("11, repay: BEYOND ahead of STATE, the same", States::full, x -> x.repay(1, 1, 0, 1), Due.BEYOND);
        due.error("11, repay: BEYOND ahead of STATE, the same that has none", EdgesOfPeopleTest::lenders,
            x -> x.repay(1, 1, 0, 1), Due.BEYOND);
    }

    private static void repayStates() {
        due.edge("11, repay: all that is owed", x -> debtors(x) + x.spoon(0, 3, 0), x -> x.repay(1, 0, 3, 20), 0);
        due.error("11, repay: one more than is owed", x -> debtors(x) + x.spoon(0, 3, 0), x -> x.repay(1, 0, 3, 21),
            Due.STATE);
        due.error("11, repay: nothing is owed", EdgesOfPeopleTest::debtors, x -> x.repay(2, 0, 3, 1), Due.STATE);
        due.error("11, repay: it is the other one who owes", EdgesOfPeopleTest::debtors, x -> x.repay(0, 1, 3, 1),
            Due.STATE);
        due.edge("11, repay: all that one has", EdgesOfPeopleTest::debtors, x -> x.repay(1, 0, 4, 5), 15);
        due.error("11, repay: one more than one has", EdgesOfPeopleTest::debtors, x -> x.repay(1, 0, 4, 6), Due.STATE);
        due.edge("11, repay: till the other one has 99", EdgesOfPeopleTest::debtors, x -> x.repay(1, 0, 3, 9), 11);
        due.error("11, repay: the other one would have 100", EdgesOfPeopleTest::debtors, x -> x.repay(1, 0, 3, 10),
            Due.STATE);
        due.edge("11, repay: one of 999", x -> States.two(x) + States.owed(x, 0, 1, 999), x -> x.repay(1, 0, 0, 1),
            998);
        due.edge("11, repay: one has less", EdgesOfPeopleTest::debtors, x -> x.repay(1, 0, 3, 9), x -> x.hold(1, 3),
            21);
        due.edge("11, repay: another SORT stays", EdgesOfPeopleTest::debtors, x -> x.repay(1, 0, 3, 9),
            x -> x.hold(1, 2), 30);
        due.edge("11, repay: the other one has more", EdgesOfPeopleTest::debtors, x -> x.repay(1, 0, 3, 9),
            x -> x.hold(0, 3), 99);
        due.edge("11, repay: nothing is owed back", EdgesOfPeopleTest::debtors, x -> x.repay(1, 0, 3, 9),
            x -> x.owes(0, 1), 0);
    }

    private static void owes() {
        due.range("12, owes: from", States::rich, (x, v) -> x.owes(v, 1), 0, LAST);
        due.range("12, owes: to", States::rich, (x, v) -> x.owes(1, v), 0, LAST);
        due.error("12, owes: one and the same, the first", States::rich, x -> x.owes(0, 0), Due.BEYOND);
        due.error("12, owes: one and the same, the last", States::rich, x -> x.owes(LAST, LAST), Due.BEYOND);
        due.error("12, owes: nobody yet", States::nothing, x -> x.owes(0, 1), Due.BEYOND);
        due.error("12, owes: one alone", States::one, x -> x.owes(0, 1), Due.BEYOND);
        due.edge("12, owes: 0", States::rich, x -> x.owes(2, 0), 0);
        due.edge("12, owes: one another one", States::rich, x -> x.owes(3, 0), 3);
        due.edge("12, owes: the other one that one", States::rich, x -> x.owes(0, 3), 20);
        due.edge("12, owes: 999", States::full, x -> x.owes(1, 0), 999);
    }
}
