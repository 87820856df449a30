/** Promises 1 to 9. */
public final class PeopleTest {
    private static final Due due = new Due("PeopleTest");

    public static void main(String[] args) {
        aNewObject();
        persons();
        children();
        personIs();
        becoming();
        asAKind();
        spoons();
        gains();
        due.end();
    }

    private static long family(DirtPress x) {
        x.person(5);
        x.person(17);
        Due.set(x, 0, 9, 1, 0, 99, 3);
        Due.set(x, 1, 4, 2, 0, 99, 0);
        return x.child(44, 1, 0);
    }

    private static long crowd(DirtPress x) {
        for (int i = 0; i < 8; i++) {
            x.person(i * 10 % 70 + i);
        }
        return 0;
    }

    private static long nobody(DirtPress x) {
        return 0;
    }

    private static void aNewObject() {
        DirtPress x = new DirtPress();
        int[] counts = {0, 0, 0, 0, 0, 1};
        for (int i = 0; i < 6; i++) {
            due.is("count(" + i + ") of a new object", x.count(i), counts[i]);
        }
        for (int k = 1; k <= 6; k++) {
            due.is("told(" + k + ") of a new object", x.told(k), 0);
        }
        due.is("law(0, 4, 0, 0)", x.law(0, 4, 0, 0), 4);
        due.is("law(1, 4, 0, 0)", x.law(1, 4, 0, 0), 4);
        for (int sheet = 0; sheet < 4; sheet++) {
            due.is("judge of a missing sheet", x.judge(sheet), Due.LOW - Due.NONE);
        }
        due.is("restore()", x.restore(), Due.LOW - Due.NONE);
        due.is("body(0)", x.body(0), Due.LOW - Due.NONE);
        DirtPress other = new DirtPress();
        x.person(3);
        x.year(7);
        due.is("another object's people", other.count(0), 0);
        due.is("another object's year", other.count(1), 0);
    }

    private static void persons() {
        DirtPress x = new DirtPress();
        due.is("person(0)", x.person(0), 0);
        due.is("person(69)", x.person(69), 1);
        due.is("kind of the second", x.personIs(1, 0), 6);
        due.is("m of the second", x.personIs(1, 1), 9);
        due.is("father of the second", x.personIs(1, 2), -1);
        due.is("mother of the second", x.personIs(1, 3), -1);
        due.is("spoons of the second", x.personIs(1, 4), 0);
        due.error("person(-1)", PeopleTest::family, y -> y.person(-1), Due.BEYOND);
        due.error("person(70)", PeopleTest::family, y -> y.person(70), Due.BEYOND);
        due.error("a ninth", PeopleTest::crowd, y -> y.person(1), Due.FULL);
        due.error("a ninth of no kind", PeopleTest::crowd, y -> y.person(70), Due.BEYOND);
    }

    private static void children() {
        DirtPress x = new DirtPress();
        due.is("the child", family(x), 2);
        int[] poured = {6, 1, 0, 99, 1};
        for (int sort = 0; sort < 5; sort++) {
            due.is("poured sort " + sort, x.hold(2, sort), poured[sort]);
        }
        due.is("the father keeps", x.hold(0, 0), 9);
        due.is("the mother keeps", x.hold(1, 0), 4);
        due.is("father", x.personIs(2, 2), 1);
        due.is("mother", x.personIs(2, 3), 0);
        due.is("kind", x.personIs(2, 0), 4);
        due.is("m", x.personIs(2, 1), 4);
        due.error("child(70, 0, 1)", PeopleTest::family, y -> y.child(70, 0, 1), Due.BEYOND);
        due.error("child(-1, 0, 1)", PeopleTest::family, y -> y.child(-1, 0, 1), Due.BEYOND);
        due.error("child(1, 0, 0)", PeopleTest::family, y -> y.child(1, 0, 0), Due.BEYOND);
        due.error("child(1, -1, 0)", PeopleTest::family, y -> y.child(1, -1, 0), Due.BEYOND);
        due.error("child(1, 0, -1)", PeopleTest::family, y -> y.child(1, 0, -1), Due.BEYOND);
        due.error("child(1, -1, -1)", PeopleTest::family, y -> y.child(1, -1, -1), Due.BEYOND);
        due.error("child(1, 3, 0)", PeopleTest::family, y -> y.child(1, 3, 0), Due.BEYOND);
        due.error("child(1, 0, 3)", PeopleTest::family, y -> y.child(1, 0, 3), Due.BEYOND);
        due.error("a ninth child", PeopleTest::crowd, y -> y.child(1, 0, 1), Due.FULL);
        due.error("a ninth child of one", PeopleTest::crowd, y -> y.child(1, 1, 1), Due.BEYOND);
    }

    private static void personIs() {
        DirtPress x = new DirtPress();
        family(x);
        due.is("from of an orphan", x.personIs(0, 6), 0);
        due.is("from of a child", x.personIs(2, 6), 3);
        x.person(1);
        x.child(2, 2, 3);
        x.child(2, 4, 0);
        due.is("from of a grandchild", x.personIs(4, 6), 15);
        due.is("from of its child", x.personIs(5, 6), 31);
        due.is("spoons of all sorts", x.personIs(0, 4), 112);
        due.is("worth without a text", x.personIs(0, 5), 112);
        Due.text(x, 1, "v*9-n");
        due.is("worth is held by sorts", x.personIs(0, 5), 81 + 9 + 0 + 891 + 27);
        due.is("worth is below 0 nowhere", x.personIs(1, 5), 35 + 17 + 0 + 890 + 0);
        Due.text(x, 1, "v*s*9");
        due.is("worth by sorts, at most 999 each", x.personIs(0, 5), 9 + 0 + 999 + 108);
        due.error("personIs(3, 0)", PeopleTest::family, y -> y.personIs(3, 0), Due.BEYOND);
        due.error("personIs(-1, 0)", PeopleTest::family, y -> y.personIs(-1, 0), Due.BEYOND);
        due.error("personIs(0, 7)", PeopleTest::family, y -> y.personIs(0, 7), Due.BEYOND);
        due.error("personIs(0, -1)", PeopleTest::family, y -> y.personIs(0, -1), Due.BEYOND);
    }

    private static void becoming() {
        DirtPress x = new DirtPress();
        family(x);
        due.is("become(2, 69)", x.become(2, 69), 4);
        due.is("the kind then", x.personIs(2, 0), 6);
        due.is("m then", x.personIs(2, 1), 9);
        due.is("the father then", x.personIs(2, 2), 1);
        due.is("the spoons then", x.hold(2, 0), 6);
        due.is("become(2, 0)", x.become(2, 0), 6);
        due.error("become(3, 1)", PeopleTest::family, y -> y.become(3, 1), Due.BEYOND);
        due.error("become(-1, 1)", PeopleTest::family, y -> y.become(-1, 1), Due.BEYOND);
        due.error("become(0, 70)", PeopleTest::family, y -> y.become(0, 70), Due.BEYOND);
        due.error("become(0, -1)", PeopleTest::family, y -> y.become(0, -1), Due.BEYOND);
    }

    private static void asAKind() {
        for (int kind = 0; kind < 7; kind++) {
            DirtPress x = new DirtPress();
            x.person(kind * 10 + 7);
            for (int upper = 0; upper < 7; upper++) {
                boolean is = kind == upper || upper == 0 || kind == 4 && upper == 1 || kind == 5 && upper == 2;
                due.is("one of " + kind + " as " + upper, x.as(0, upper), is ? 7 : Due.LOW - Due.KIND);
            }
        }
        due.error("as(0, 1)", PeopleTest::family, y -> y.as(0, 1), Due.KIND);
        due.error("as(1, 4)", PeopleTest::family, y -> y.as(1, 4), Due.KIND);
        due.error("as(0, 7)", PeopleTest::family, y -> y.as(0, 7), Due.BEYOND);
        due.error("as(0, -1)", PeopleTest::family, y -> y.as(0, -1), Due.BEYOND);
        due.error("as(3, 1)", PeopleTest::family, y -> y.as(3, 1), Due.BEYOND);
        due.error("as(-1, 1)", PeopleTest::family, y -> y.as(-1, 1), Due.BEYOND);
    }

    private static void spoons() {
        DirtPress x = new DirtPress();
        family(x);
        due.is("hold(0, 4)", x.hold(0, 4), 3);
        due.is("hold(1, 4)", x.hold(1, 4), 0);
        due.is("spoon(0, 4, 99)", x.spoon(0, 4, 99), 3);
        due.is("spoon(0, 4, 0)", x.spoon(0, 4, 0), 99);
        due.is("hold(0, 4) then", x.hold(0, 4), 0);
        due.is("hold(0, 3) then", x.hold(0, 3), 99);
        due.error("hold(0, 5)", PeopleTest::family, y -> y.hold(0, 5), Due.BEYOND);
        due.error("hold(0, -1)", PeopleTest::family, y -> y.hold(0, -1), Due.BEYOND);
        due.error("hold(3, 0)", PeopleTest::family, y -> y.hold(3, 0), Due.BEYOND);
        due.error("hold(-1, 0)", PeopleTest::family, y -> y.hold(-1, 0), Due.BEYOND);
        due.error("spoon(0, 5, 1)", PeopleTest::family, y -> y.spoon(0, 5, 1), Due.BEYOND);
        due.error("spoon(0, -1, 1)", PeopleTest::family, y -> y.spoon(0, -1, 1), Due.BEYOND);
        due.error("spoon(3, 0, 1)", PeopleTest::family, y -> y.spoon(3, 0, 1), Due.BEYOND);
        due.error("spoon(-1, 0, 1)", PeopleTest::family, y -> y.spoon(-1, 0, 1), Due.BEYOND);
        due.error("spoon(0, 0, 100)", PeopleTest::family, y -> y.spoon(0, 0, 100), Due.BEYOND);
        due.error("spoon(0, 0, -1)", PeopleTest::family, y -> y.spoon(0, 0, -1), Due.BEYOND);
    }

    private static void gains() {
        int[][] sevens = {
            {0, 0, 1, 0, 0}, {2, 0, 1, 0, 0}, {0, 0, 3, 0, 0}, {0, 0, 1, 0, 7},
            {2 + 9, 1, 1 + 5, 0, 2}, {-1, -1, 2, -1, -1}, {0, 0, 1, 0, 0},
        };
        for (int kind = 0; kind < 7; kind++) {
            DirtPress x = new DirtPress();
            x.person(kind * 10 + 7);
            Due.set(x, 0, 99, 19, 50, 9, 20);
            for (int sort = 0; sort < 5; sort++) {
                int want = Math.min(9, sevens[kind][sort]);
                due.is("gain of sort " + sort + " by kind " + kind, x.gain(0, sort), want);
            }
        }
        DirtPress x = new DirtPress();
        x.person(15);
        x.person(39);
        x.person(62);
        due.is("a bishop with coal by m", x.gain(0, 0), 3);
        due.is("an inker", x.gain(1, 4), 9);
        due.is("an inker of m 9, another sort", x.gain(1, 3), 0);
        x.become(1, 33);
        due.is("an inker of m 3, sort 4", x.gain(1, 4), 3);
        due.is("an inker of m 3, sort 3", x.gain(1, 3), 1);
        x.year(1);
        due.is("a foundling in an odd year", x.gain(2, 2), 0);
        x.year(998);
        due.is("a foundling in an even year", x.gain(2, 2), 1);
        Due.text(x, 0, "w*100+s*10+y");
        due.is("a gain by a text is held", x.gain(2, 2), 9);
        Due.text(x, 0, "y-1000+s");
        due.is("names s and y", x.gain(0, 4), 2);
        Due.text(x, 0, "0-w*4");
        due.is("a gain below", x.gain(0, 0), -9);
        due.error("gain(3, 0)", PeopleTest::family, y -> y.gain(3, 0), Due.BEYOND);
        due.error("gain(-1, 0)", PeopleTest::family, y -> y.gain(-1, 0), Due.BEYOND);
        due.error("gain(0, 5)", PeopleTest::family, y -> y.gain(0, 5), Due.BEYOND);
        due.error("gain(0, -1)", PeopleTest::family, y -> y.gain(0, -1), Due.BEYOND);
        due.error("gain(0, 0) of nobody", PeopleTest::nobody, y -> y.gain(0, 0), Due.BEYOND);
    }
}
