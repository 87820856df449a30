/** Promises 1 to 9; their edges stand in EdgesOfPeopleTest and EdgesOfTermsTest. */
public final class PeopleTest {
    private static final Due due = new Due("PeopleTest");

    public static void main(String[] args) {
        persons();
        children();
        personIs();
        becoming();
        spoons();
        gains();
        due.end();
    }

    private static long family(DirtPress x) {
        x.person(5);
        x.person(17);
        Due.set(x, 0, 9, 1, 0, 99, 3);
        Due.set(x, 1, 4, 2, 0, 99, 0);
        return x.child(44, 1, 0);
    }

    private static void persons() {
        DirtPress x = new DirtPress();
        due.is("person(0)", x.person(0), 0);
        due.is("person(69)", x.person(69), 1);
        due.is("kind of the second", x.personIs(1, 0), 6);
        due.is("m of the second", x.personIs(1, 1), 9);
        due.is("father of the second", x.personIs(1, 2), -1);
        due.is("mother of the second", x.personIs(1, 3), -1);
        due.is("spoons of the second", x.personIs(1, 4), 0);
    }

    private static void children() {
        DirtPress x = new DirtPress();
        due.is("the child", family(x), 2);
        int[] poured = {6, 1, 0, 99, 1};
        for (int sort = 0; sort < 5; sort++) {
            due.is("poured sort " + sort, x.hold(2, sort), poured[sort]);
        }
        due.is("the father keeps", x.hold(0, 0), 9);
        due.is("the mother keeps", x.hold(1, 0), 4);
        due.is("father", x.personIs(2, 2), 1);
        due.is("mother", x.personIs(2, 3), 0);
        due.is("kind", x.personIs(2, 0), 4);
        due.is("m", x.personIs(2, 1), 4);
    }

    private static void personIs() {
        DirtPress x = new DirtPress();
        family(x);
        due.is("from of an orphan", x.personIs(0, 6), 0);
        due.is("from of a child", x.personIs(2, 6), 3);
        x.person(1);
        x.child(2, 2, 3);
        x.child(2, 4, 0);
        due.is("from of a grandchild", x.personIs(4, 6), 15);
        due.is("from of its child", x.personIs(5, 6), 31);
        due.is("spoons of all sorts", x.personIs(0, 4), 112);
        due.is("worth without a text", x.personIs(0, 5), 112);
        Due.text(x, 1, "v*9-n");
        due.is("worth is held by sorts", x.personIs(0, 5), 81 + 9 + 0 + 891 + 27);
        due.is("worth is below 0 nowhere", x.personIs(1, 5), 35 + 17 + 0 + 890 + 0);
        Due.text(x, 1, "v*s*9");
        due.is("worth by sorts, at most 999 each", x.personIs(0, 5), 9 + 0 + 999 + 108);
    }

    private static void becoming() {
        DirtPress x = new DirtPress();
        family(x);
        due.is("become(2, 69)", x.become(2, 69), 4);
        due.is("the kind then", x.personIs(2, 0), 6);
        due.is("m then", x.personIs(2, 1), 9);
        due.is("the father then", x.personIs(2, 2), 1);
        due.is("the spoons then", x.hold(2, 0), 6);
        due.is("become(2, 0)", x.become(2, 0), 6);
    }

    private static void spoons() {
        DirtPress x = new DirtPress();
        family(x);
        due.is("hold(0, 4)", x.hold(0, 4), 3);
        due.is("hold(1, 4)", x.hold(1, 4), 0);
        due.is("spoon(0, 4, 99)", x.spoon(0, 4, 99), 3);
        due.is("spoon(0, 4, 0)", x.spoon(0, 4, 0), 99);
        due.is("hold(0, 4) then", x.hold(0, 4), 0);
        due.is("hold(0, 3) then", x.hold(0, 3), 99);
    }

    private static void gains() {
        int[][] sevens = {
            {0, 0, 1, 0, 0}, {2, 0, 1, 0, 0}, {0, 0, 3, 0, 0}, {0, 0, 1, 0, 7},
            {2 + 9, 1, 1 + 5, 0, 2}, {-1, -1, 2, -1, -1}, {0, 0, 1, 0, 0},
        };
        for (int kind = 0; kind < 7; kind++) {
            DirtPress x = new DirtPress();
            x.person(kind * 10 + 7);
            Due.set(x, 0, 99, 19, 50, 9, 20);
            for (int sort = 0; sort < 5; sort++) {
                int want = Math.min(9, sevens[kind][sort]);
                due.is("gain of sort " + sort + " by kind " + kind, x.gain(0, sort), want);
            }
        }
        DirtPress x = new DirtPress();
        x.person(15);
        x.person(39);
        x.person(62);
        due.is("a bishop with coal by m", x.gain(0, 0), 3);
        due.is("an inker", x.gain(1, 4), 9);
        due.is("an inker of m 9, another sort", x.gain(1, 3), 0);
        x.become(1, 33);
        due.is("an inker of m 3, sort 4", x.gain(1, 4), 3);
        due.is("an inker of m 3, sort 3", x.gain(1, 3), 1);
        x.year(1);
        due.is("a foundling in an odd year", x.gain(2, 2), 0);
        x.year(998);
        due.is("a foundling in an even year", x.gain(2, 2), 1);
        Due.text(x, 0, "w*100+s*10+y");
        due.is("a gain by a text is held", x.gain(2, 2), 9);
        Due.text(x, 0, "y-1000+s");
        due.is("names s and y", x.gain(0, 4), 2);
        Due.text(x, 0, "0-w*4");
        due.is("a gain below", x.gain(0, 0), -9);
    }
}
