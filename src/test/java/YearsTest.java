/** Promises 17 to 20; their edges stand in EdgesOfYearsTest and EdgesOfTermsTest. */
public final class YearsTest {
    private static final Due due = new Due("YearsTest");

    public static void main(String[] args) {
        years();
        kinds();
        order();
        looseYears();
        draws();
        due.end();
    }

    private static long some(DirtPress x) {
        x.person(1);
        x.person(42);
        Due.set(x, 0, 90, 98, 0, 99, 1);
        x.year(990);
        return Due.set(x, 1, 50, 0, 0, 0, 10);
    }

    private static void years() {
        DirtPress x = new DirtPress();
        due.is("a year without people", x.years(1), 1);
        due.is("60 more", x.years(60), 61);
        due.is("count(1)", x.count(1), 61);
        some(x);
        due.is("years(3)", x.years(3), 993);
        int[] first = {90, 99, 0, 99, 1};
        int[] second = {50 + 7 + 7 + 8, 0, 3, 0, 13};
        for (int sort = 0; sort < 5; sort++) {
            due.is("a person's sort " + sort, x.hold(0, sort), first[sort]);
            due.is("an abbot's sort " + sort, x.hold(1, sort), second[sort]);
        }
        due.is("to 999", x.years(6), 999);
        x.person(0);
        due.is("who comes later did not grow", x.personIs(2, 4), 0);
    }

    private static void kinds() {
        DirtPress x = new DirtPress();
        for (int kind = 0; kind < 7; kind++) {
            x.person(kind * 10 + 6);
            Due.set(x, kind, 1, 1, 1, 1, 1);
        }
        x.years(4);
        int[][] want = {
            {1, 5, 1, 1, 1}, {9, 5, 1, 1, 1}, {1, 13, 1, 1, 1}, {1, 5, 1, 1, 25},
            {9, 5, 1, 1, 1}, {0, 9, 0, 0, 0}, {1, 3, 1, 1, 1},
        };
        for (int kind = 0; kind < 7; kind++) {
            for (int sort = 0; sort < 5; sort++) {
                due.is("kind " + kind + ", sort " + sort, x.hold(kind, sort), want[kind][sort]);
            }
        }
    }

    private static void order() {
        DirtPress x = new DirtPress();
        x.person(0);
        Due.text(x, 0, "y%3+s");
        x.years(4);
        for (int sort = 0; sort < 5; sort++) {
            due.is("the year as it was, sort " + sort, x.hold(0, sort), 3 + 4 * sort);
        }
        Due.text(x, 0, "0-8");
        x.years(1);
        due.is("held at 0", x.hold(0, 0), 0);
        due.is("less", x.hold(0, 4), 11);
    }

    private static int drawn(int z) {
        return z * 1103515245 + 12345;
    }

    private static void looseYears() {
        DirtPress x = new DirtPress();
        due.is("loose(20) without people", x.loose(20), 0);
        due.is("the year goes by", x.count(1), 20);
        due.is("nothing is drawn", x.count(5), 1);
        x.person(0);
        x.spoon(0, 0, 50);
        due.is("nobody steals from oneself", x.loose(2), 0);
        due.is("the gain goes by", x.hold(0, 0), 52);
        int z = 1;
        for (int i = 0; i < 6; i++) {
            z = drawn(z);
        }
        due.is("three draws a year", x.count(5), z);
        x.year(979);
        due.is("loose to 999", x.loose(20), 0);
        due.is("the year then", x.count(1), 999);
    }

    // Which z steals what is worked out here by the draws alone.
    private static void draws() {
        int seen = 0;
        for (int z = -400; z < 400; z++) {
            int one = drawn(z);
            int two = drawn(one);
            int three = drawn(two);
            int loser = (one >>> 8) % 3;
            int thief = (two >>> 8) % 3;
            int sort = (three >>> 8) % 5;
            int[][] has = {{9, 60, 99, 0, 1}, {81, 5, 98, 7, 95}, {40, 60, 3, 44, 90}};
            DirtPress x = new DirtPress();
            for (int p = 0; p < 3; p++) {
                x.person(52);
                Due.set(x, p, has[p]);
            }
            Due.text(x, 0, "0");
            x.seed(z);
            int stolen = loser == thief ? 0 : Math.min(has[loser][sort], 99 - has[thief][sort]) / 2;
            due.is("loose(1) by " + z, x.loose(1), stolen);
            due.is("z by " + z, x.count(5), three);
            has[loser][sort] -= stolen;
            has[thief][sort] += stolen;
            for (int p = 0; p < 3; p++) {
                for (int s = 0; s < 5; s++) {
                    due.is("by " + z + ", hold(" + p + ", " + s + ")", x.hold(p, s), has[p][s]);
                }
            }
            seen |= 1 << loser | 1 << thief + 3 | 1 << sort + 6;
        }
        due.is("every one and every sort was drawn", seen, 2047);
        DirtPress x = new DirtPress();
        x.person(50);
        x.person(50);
        x.spoon(0, 1, 21);
        x.spoon(1, 1, 21);
        Due.text(x, 0, "(s=1)*(1+y)");
        int before = x.loose(1);
        due.is("the theft is ahead of the gain", x.hold(0, 1) + x.hold(1, 1), 44);
        due.is("half of 21 or nothing", before == 0 || before == 10 ? 1 : 0, 1);
    }
}
