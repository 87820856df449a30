/** The edges of promises 21 to 28, and those under 'Terms', 3. */
public final class EdgesOfThoughtTest {
    private static final Due due = new Due("EdgesOfThoughtTest");
    private static final int LAST = 3;

    public static void main(String[] args) {
        then();
        thenOn();
        clean();
        cleanBy();
        parents();
        parentsOf();
        falseSorts();
        kin();
        nets();
        odds();
        oddsBy();
        fits();
        fitsBy();
        due.end();
    }

    private static void then() {
        due.range("21, then: person", States::rich, (x, v) -> x.then(v, 0, 1), 0, LAST);
        due.range("21, then: sort", States::rich, (x, v) -> x.then(0, v, 1), 0, 4);
        due.range("21, then: n", States::rich, (x, v) -> x.then(0, 0, v), 0, 60);
        due.error("21, then: nobody yet", States::nothing, x -> x.then(0, 0, 0), Due.BEYOND);
        due.edge("21, then: 0 YEARS on", States::rich, x -> x.then(0, 3, 0), 99);
        due.edge("21, then: 0 YEARS on, of none", States::one, x -> x.then(0, 1, 0), 0);
        due.edge("21, then: 1 YEAR on", States::one, x -> x.then(0, 1, 1), 1);
        due.edge("21, then: 60 YEARS on", States::one, x -> x.then(0, 1, 60), 60);
        due.edge("21, then: held at 99", x -> x.person(39), x -> x.then(0, 4, 12), 99);
        due.edge("21, then: 11 YEARS on, 99 just", x -> x.person(39), x -> x.then(0, 4, 11), 99);
        due.edge("21, then: 10 YEARS on", x -> x.person(39), x -> x.then(0, 4, 10), 90);
        due.edge("21, then: held at 0", x -> x.person(50) + x.spoon(0, 1, 5), x -> x.then(0, 1, 6), 0);
        due.edge("21, then: 0 just", x -> x.person(50) + x.spoon(0, 1, 5), x -> x.then(0, 1, 5), 0);
        due.edge("21, then: 1 is left", x -> x.person(50) + x.spoon(0, 1, 5), x -> x.then(0, 1, 4), 1);
    }

    private static void thenOn() {
        due.edge("21, then: this YEAR's GAIN is the first", x -> x.person(60), x -> x.then(0, 0, 1), 1);
        due.edge("21, then: the next YEAR's GAIN is the second", x -> x.person(60), x -> x.then(0, 0, 2), 1);
        due.edge("21, then: from an odd YEAR on", x -> x.person(60) + x.year(999), x -> x.then(0, 0, 2), 1);
        due.edge("21, then: YEAR 999 is thought", x -> x.person(0) + x.year(999) + Due.text(x, 0, "y=999"),
            x -> x.then(0, 0, 1), 1);
        due.edge("21, then: YEAR 1000 is thought", x -> x.person(0) + x.year(999) + Due.text(x, 0, "y=1000"),
            x -> x.then(0, 0, 2), 1);
        due.edge("21, then: YEAR 1058 is thought", x -> x.person(0) + x.year(999) + Due.text(x, 0, "y=1058"),
            x -> x.then(0, 0, 60), 1);
        due.edge("21, then: YEAR 1059 isn't", x -> x.person(0) + x.year(999) + Due.text(x, 0, "y=1059"),
            x -> x.then(0, 0, 60), 0);
        due.edge("21, then: an ABBOT by what he has then", x -> x.person(41) + x.spoon(0, 0, 9), x -> x.then(0, 0, 2),
            14);
        due.edge("21, then: YEAR stays", States::full, x -> x.then(0, 0, 60), x -> x.count(1), 999);
        due.edge("21, then: SPOONS stay", States::one, x -> x.then(0, 1, 60), x -> x.hold(0, 1), 0);
        due.edge("21, then: z stays", States::one, x -> x.then(0, 1, 60), x -> x.count(5), 1);
    }

    private static void clean() {
        due.letsIn("22, clean: x 500", States::one, x -> x.clean(500, 0));
        for (int v : new int[] {-1, 501, Integer.MIN_VALUE, Integer.MAX_VALUE}) {
            due.error("22, clean: x " + v, States::one, x -> x.clean(v, 0), Due.BEYOND);
        }
        due.range("22, clean: what", States::one, (x, v) -> x.clean(1, v), 0, 1);
        due.error("22, clean: x 0, nobody has less", States::one, x -> x.clean(0, 0), Due.NONE);
        due.error("22, clean: NONE of nobody", States::nothing, x -> x.clean(500, 0), Due.NONE);
        due.error("22, clean: BEYOND ahead of NONE, x 501", States::nothing, x -> x.clean(501, 0), Due.BEYOND);
        due.error("22, clean: BEYOND ahead of NONE, x -1", States::nothing, x -> x.clean(-1, 1), Due.BEYOND);
        due.error("22, clean: BEYOND ahead of NONE, what 2", States::nothing, x -> x.clean(0, 2), Due.BEYOND);
        due.error("22, clean: BEYOND ahead of NONE, what -1", States::nothing, x -> x.clean(0, -1), Due.BEYOND);
        due.edge("22, clean: 495 are less than 496", States::full, x -> x.clean(496, 1), 0);
        due.error("22, clean: 495 are not less than 495", States::full, x -> x.clean(495, 1), Due.NONE);
        due.edge("22, clean: 0 are less than 1", States::one, x -> x.clean(1, 1), 0);
    }

    /** The first has 1, and loses it in that YEAR alone. */
    private static long loses(DirtPress x, int year) {
        x.person(0);
        x.spoon(0, 2, 1);
        return Due.text(x, 0, "0-(y=" + year + ")");
    }

    private static void cleanBy() {
        due.edge("22, clean: behind 0 YEARS, now", States::one, x -> x.clean(1, 1), 0);
        due.edge("22, clean: behind 1 YEAR", x -> loses(x, 0), x -> x.clean(1, 1), 1);
        due.edge("22, clean: behind 59 YEARS", x -> loses(x, 58), x -> x.clean(1, 1), 59);
        due.edge("22, clean: behind 60 YEARS", x -> loses(x, 59), x -> x.clean(1, 1), 60);
        due.edge("22, clean: who behind 60 YEARS", x -> loses(x, 59), x -> x.clean(1, 0), 0);
        due.error("22, clean: behind 61 YEARS", x -> loses(x, 60), x -> x.clean(1, 1), Due.NONE);
        due.error("22, clean: who behind 61 YEARS", x -> loses(x, 60), x -> x.clean(1, 0), Due.NONE);
        due.edge("22, clean: YEAR 1000 is thought", x -> loses(x, 1000) + x.year(999), x -> x.clean(1, 1), 2);
        due.edge("22, clean: YEAR 1058 is thought", x -> loses(x, 1058) + x.year(999), x -> x.clean(1, 1), 60);
        due.error("22, clean: YEAR 1059 isn't", x -> loses(x, 1059) + x.year(999), x -> x.clean(1, 1), Due.NONE);
        due.edge("22, clean: who, the least of two", x -> loses(x, 4) + x.person(0) + x.spoon(1, 0, 1),
            x -> x.clean(1, 0), 0);
        due.edge("22, clean: who, not the least of all",
            x -> loses(x, 4) + x.spoon(0, 0, 2) + x.person(0) + x.spoon(1, 0, 1), x -> x.clean(1, 0), 1);
        due.edge("22, clean: who, the last of eight", x -> States.full(x) + x.spoon(7, 4, 98), x -> x.clean(495, 0), 7);
        due.edge("22, clean: who is first, not who has least then", x -> {
            States.two(x);
            Due.text(x, 0, "0-3*(s=0&y=0)-9*(s=1&y=1)");
            x.spoon(0, 1, 9);
            return x.spoon(1, 0, 3);
        }, x -> x.clean(2, 0) * 100 + x.clean(2, 1), 101);
        due.edge("22, clean: YEAR stays", x -> loses(x, 59), x -> x.clean(1, 1), x -> x.count(1), 0);
        due.edge("22, clean: SPOONS stay", x -> loses(x, 59), x -> x.clean(1, 1), x -> x.hold(0, 2), 1);
        due.edge("22, clean: all SORTS together", x -> x.person(0) + Due.set(x, 0, 1, 1, 1, 1, 1), x -> x.clean(6, 1),
            0);
        due.error("22, clean: all SORTS together, not less", x -> x.person(0) + Due.set(x, 0, 1, 1, 1, 1, 1),
            x -> x.clean(5, 1), Due.NONE);
    }

    /** What 0 has is POURED of 1 and 2, and of 1 and 3. */
    private static long pairs(DirtPress x) {
        for (int p = 0; p < 4; p++) {
            x.person(p);
        }
        Due.set(x, 0, 4, 0, 99, 1, 2);
        Due.set(x, 1, 8, 0, 99, 3, 0);
        Due.set(x, 2, 0, 1, 99, 0, 4);
        return Due.set(x, 3, 1, 1, 99, 0, 5);
    }

    private static void parents() {
        due.range("23, parents: person", EdgesOfThoughtTest::pairs, (x, v) -> x.parents(v, 0), 0, LAST);
        due.range("23, parents: what", EdgesOfThoughtTest::pairs, (x, v) -> x.parents(0, v), 0, 2);
        due.error("23, parents: nobody yet", States::nothing, x -> x.parents(0, 0), Due.BEYOND);
        due.error("23, parents: NONE, what 1", EdgesOfThoughtTest::pairs, x -> x.parents(1, 1), Due.NONE);
        due.error("23, parents: NONE, what 2", EdgesOfThoughtTest::pairs, x -> x.parents(1, 2), Due.NONE);
        due.edge("23, parents: 0 pairs, no ERROR", EdgesOfThoughtTest::pairs, x -> x.parents(1, 0) + x.told(2), 0);
        due.error("23, parents: BEYOND ahead of NONE, what 3", EdgesOfThoughtTest::pairs, x -> x.parents(1, 3),
            Due.BEYOND);
        due.error("23, parents: BEYOND ahead of NONE, what -1", EdgesOfThoughtTest::pairs, x -> x.parents(1, -1),
            Due.BEYOND);
        due.error("23, parents: NONE of one alone", States::one, x -> x.parents(0, 1), Due.NONE);
        due.error("23, parents: NONE of one and another", States::two, x -> x.parents(0, 2), Due.NONE);
        due.edge("23, parents: two pairs", EdgesOfThoughtTest::pairs, x -> x.parents(0, 0), 2);
        due.edge("23, parents: the lesser one of the first", EdgesOfThoughtTest::pairs, x -> x.parents(0, 1), 1);
        due.edge("23, parents: the other one of the first", EdgesOfThoughtTest::pairs, x -> x.parents(0, 2), 2);
    }

    private static void parentsOf() {
        for (int sort = 0; sort < 5; sort++) {
            int s = sort;
            due.edge("23, parents: one more of SORT " + s + " is not just what one has", EdgesOfThoughtTest::pairs,
                x -> x.spoon(0, s, x.hold(0, s) == 99 ? 98 : x.hold(0, s) + 1), x -> x.parents(0, 0), 0);
        }
        due.edge("23, parents: as many of all SORTS together are not just what one has", EdgesOfThoughtTest::pairs,
            x -> x.spoon(0, 0, 3) + x.spoon(0, 1, 1), x -> x.parents(0, 0), 0);
        due.edge("23, parents: three alike are three pairs for a fourth", x -> States.people(x, 4),
            x -> x.parents(3, 0), 3);
        due.edge("23, parents: oneself isn't one, the first", x -> States.people(x, 4), x -> x.parents(0, 1), 1);
        due.edge("23, parents: oneself isn't one, the second", x -> States.people(x, 4), x -> x.parents(1, 2), 2);
        due.edge("23, parents: oneself isn't one of two", x -> States.people(x, 3), x -> x.parents(2, 0), 1);
        due.edge("23, parents: the first pair by the lesser one", x -> States.people(x, 8), x -> x.parents(7, 1), 0);
        due.edge("23, parents: the first pair by the other one, too", x -> States.people(x, 8), x -> x.parents(7, 2),
            1);
        due.edge("23, parents: 21 pairs of seven", x -> States.people(x, 8), x -> x.parents(7, 0), 21);
        due.edge("23, parents: the last pair", x -> {
            States.people(x, 8);
            Due.set(x, 6, 99);
            Due.set(x, 7, 98);
            return Due.set(x, 0, 98);
        }, x -> x.parents(0, 1) * 10 + x.parents(0, 2), 67);
        due.edge("23, parents: by what is had now, not by birth",
            x -> States.two(x) + x.child(0, 0, 1) + x.spoon(0, 0, 2), x -> x.parents(2, 0), 0);
    }

    private static long born(DirtPress x) {
        States.two(x);
        x.child(0, 0, 1);
        return Due.set(x, 2, 1, 1, 1, 1, 1);
    }

    private static void falseSorts() {
        due.letsIn("24, falseSorts: the last", x -> born(x) + x.child(0, 1, 2), x -> x.falseSorts(3));
        due.error("24, falseSorts: person -1", EdgesOfThoughtTest::born, x -> x.falseSorts(-1), Due.BEYOND);
        due.error("24, falseSorts: person 3", EdgesOfThoughtTest::born, x -> x.falseSorts(3), Due.BEYOND);
        due.error("24, falseSorts: nobody yet", States::nothing, x -> x.falseSorts(0), Due.BEYOND);
        due.error("24, falseSorts: STATE of the first", EdgesOfThoughtTest::born, x -> x.falseSorts(0), Due.STATE);
        due.error("24, falseSorts: STATE of one that has none", States::one, x -> x.falseSorts(0), Due.STATE);
        due.edge("24, falseSorts: all", EdgesOfThoughtTest::born, x -> x.falseSorts(2), 31);
        due.edge("24, falseSorts: none", x -> States.two(x) + x.child(0, 0, 1), x -> x.falseSorts(2), 0);
        for (int sort = 0; sort < 5; sort++) {
            int s = sort;
            due.edge("24, falseSorts: not what one has none of, SORT " + s, EdgesOfThoughtTest::born,
                x -> x.spoon(2, s, 0), x -> x.falseSorts(2), 31 - (1 << s));
            due.edge("24, falseSorts: not what the FATHER has 1 of, SORT " + s, EdgesOfThoughtTest::born,
                x -> x.spoon(0, s, 1), x -> x.falseSorts(2), 31 - (1 << s));
            due.edge("24, falseSorts: not what the MOTHER has 1 of, SORT " + s, EdgesOfThoughtTest::born,
                x -> x.spoon(1, s, 1), x -> x.falseSorts(2), 31 - (1 << s));
        }
        due.edge("24, falseSorts: there is no sixth SORT",
            x -> born(x) + x.spoon(2, 0, 0) + x.person(0) + x.spoon(3, 0, 9),
            x -> x.falseSorts(2), 30);
        due.edge("24, falseSorts: what they have now, not then", x -> {
            States.two(x);
            x.spoon(0, 0, 9);
            x.child(0, 0, 1);
            return x.spoon(0, 0, 0);
        }, x -> x.falseSorts(2), 1);
    }

    private static void kin() {
        due.error("25, kin: one -1", States::rich, x -> x.kin(-1, 1), Due.BEYOND);
        due.error("25, kin: one 4", States::rich, x -> x.kin(4, 1), Due.BEYOND);
        due.error("25, kin: other -1", States::rich, x -> x.kin(1, -1), Due.BEYOND);
        due.error("25, kin: other 4", States::rich, x -> x.kin(1, 4), Due.BEYOND);
        due.error("25, kin: one and the same, the first", States::rich, x -> x.kin(0, 0), Due.BEYOND);
        due.error("25, kin: one and the same, the last", States::rich, x -> x.kin(LAST, LAST), Due.BEYOND);
        due.error("25, kin: nobody yet", States::nothing, x -> x.kin(0, 1), Due.BEYOND);
        due.error("25, kin: one alone", States::one, x -> x.kin(0, 1), Due.BEYOND);
        due.edge("25, kin: nobody", States::rich, x -> x.kin(0, LAST), 0);
        due.edge("25, kin: nobody, of two parents", States::rich, x -> x.kin(0, 1), 0);
        due.edge("25, kin: the one is kin of its child", States::rich, x -> x.kin(0, 2), 1);
        due.edge("25, kin: the child is kin of its FATHER", States::rich, x -> x.kin(2, 1), 2);
        due.edge("25, kin: of brothers", x -> States.rich(x) + x.child(0, 0, 1), x -> x.kin(2, 4), 3);
        due.edge("25, kin: over two births", x -> States.rich(x) + x.child(0, 2, 3) + x.child(0, 0, 3),
            x -> x.kin(4, 5), 9);
        due.edge("25, kin: of the last and the one ahead, all", x -> {
            States.two(x);
            for (int one = 2; one < 8; one++) {
                x.child(0, one - 1, one - 2);
            }
            return 0;
        }, x -> x.kin(7, 6), 127);
    }

    private static void nets() {
        due.range("26, nets: what", States::rich, (x, v) -> x.nets(v), 0, 1);
        due.error("26, nets: what 2 of nobody", States::nothing, x -> x.nets(2), Due.BEYOND);
        due.edge("26, nets: 0 payments of nobody", States::nothing, x -> x.nets(0), 0);
        due.edge("26, nets: 0 above 0 of nobody", States::nothing, x -> x.nets(1), 0);
        due.edge("26, nets: 0 payments of one alone", States::one, x -> x.nets(0), 0);
        due.edge("26, nets: 0 payments where nothing is owed", States::eight, x -> x.nets(0), 0);
        due.edge("26, nets: 1 payment of two", x -> States.two(x) + States.owed(x, 0, 1, 1), x -> x.nets(0), 1);
        due.edge("26, nets: 1 above 0 of two", x -> States.two(x) + States.owed(x, 0, 1, 1), x -> x.nets(1), 1);
        due.edge("26, nets: one payment of any number of SPOONS", x -> States.two(x) + States.owed(x, 0, 1, 999),
            x -> x.nets(0), 1);
        due.edge("26, nets: 999 above 0", x -> States.two(x) + States.owed(x, 0, 1, 999), x -> x.nets(1), 999);
        due.edge("26, nets: 0 payments where all BALANCES are 0", x -> ring(x, 3), x -> x.nets(0), 0);
        due.edge("26, nets: 0 payments in a ring of eight", x -> ring(x, 8), x -> x.nets(0), 0);
        due.edge("26, nets: 0 above 0 in a ring of eight", x -> ring(x, 8), x -> x.nets(1), 0);
        due.edge("26, nets: 7 payments of eight", x -> {
            States.eight(x);
            int all = 0;
            for (int p = 0; p < 7; p++) {
                all += States.owed(x, p, 7, 1 << p);
            }
            return all;
        }, x -> x.nets(0), 7);
        due.edge("26, nets: 4 payments of four pairs",
            x -> States.eight(x) + States.owed(x, 0, 7, 5) + States.owed(x, 1, 6, 6) + States.owed(x, 2, 5,
            7) + States.owed(x, 3, 4, 8), x -> x.nets(0), 4);
        due.edge("26, nets: asked again when more is owed", x -> States.eight(x) + x.nets(0) + States.owed(x, 0, 1, 5),
            x -> x.nets(0), 1);
        due.edge("26, nets: asked again when all is paid back", x -> States.two(x) + States.owed(x, 0, 1, 5) + x.nets(0)
            + x.repay(1, 0, 0, 5), x -> x.nets(0), 0);
        due.edge("26, nets: what is owed stays", States::rich, x -> x.nets(0), x -> x.owes(0, 3), 20);
    }

    private static long ring(DirtPress x, int people) {
        States.people(x, people);
        for (int p = 0; p < people; p++) {
            States.owed(x, p, (p + 1) % people, 9);
        }
        return 0;
    }

    private static void odds() {
        due.range("27, odds: x", States::rich, (x, v) -> x.odds(v, 0), 0, 500);
        due.range("27, odds: part", States::rich, (x, v) -> x.odds(5, v), 0, 1);
        due.error("27, odds: STATE of nobody", States::nothing, x -> x.odds(0, 0), Due.STATE);
        due.error("27, odds: STATE of one", States::one, x -> x.odds(500, 1), Due.STATE);
        due.edge("27, odds: of two", States::two, x -> x.odds(1, 0), 1);
        due.error("27, odds: BEYOND ahead of STATE, x 501", States::one, x -> x.odds(501, 0), Due.BEYOND);
        due.error("27, odds: BEYOND ahead of STATE, x -1", States::one, x -> x.odds(-1, 0), Due.BEYOND);
        due.error("27, odds: BEYOND ahead of STATE, part 2", States::one, x -> x.odds(0, 2), Due.BEYOND);
        due.error("27, odds: BEYOND ahead of STATE, part -1", States::nothing, x -> x.odds(0, -1), Due.BEYOND);
        due.edge("27, odds: 0 is 0 above", States::rich, x -> x.odds(0, 0), 0);
        due.edge("27, odds: 0 is 0 by 1", States::rich, x -> x.odds(0, 1), 1);
        due.edge("27, odds: all is 1 above", States::rich, x -> x.odds(500, 0), 1);
        due.edge("27, odds: all is 1 by 1", States::rich, x -> x.odds(500, 1), 1);
    }

    private static void odds(String edge, Due.Act setup, int x, int above, int below) {
        due.edge("27, odds: " + edge + ", above", setup, y -> y.odds(x, 0), above);
        due.edge("27, odds: " + edge + ", below", setup, y -> y.odds(x, 1), below);
    }

    /** So many of the PEOPLE, the first of which have 40 of SORT 0. */
    private static long rich(DirtPress x, int people, int rich) {
        States.people(x, people);
        for (int p = 0; p < rich; p++) {
            x.spoon(p, 0, 40);
        }
        return 0;
    }

    private static void oddsBy() {
        odds("20 are not less than 20", x -> rich(x, 2, 1), 20, 0, 1);
        odds("20 are less than 21", x -> rich(x, 2, 1), 21, 1, 1);
        odds("one pair of three", x -> rich(x, 3, 1), 20, 1, 3);
        odds("3 of 6, in lowest terms", x -> rich(x, 4, 1), 20, 1, 2);
        odds("6 of 10, in lowest terms", x -> rich(x, 5, 1), 20, 3, 5);
        odds("10 of 15, in lowest terms", x -> rich(x, 6, 1), 20, 2, 3);
        odds("21 of 28, in lowest terms", x -> rich(x, 8, 1), 20, 3, 4);
        odds("1 of 28", x -> rich(x, 8, 6), 20, 1, 28);
        odds("27 of 28", x -> rich(x, 8, 2), 40, 27, 28);
        odds("495 are not less than 495", States::full, 495, 0, 1);
        odds("495 are less than 496", States::full, 496, 1, 1);
        odds("each SORT is cut: 0 is less than 1", x -> States.two(x) + Due.set(x, 0, 1, 1, 1, 1, 1), 1, 1, 1);
    }

    private static long heaps(DirtPress x) {
        States.rich(x);
        Due.row(x, 0, 8, 4, 1, 0, 99, 23);
        Due.row(x, 3, 16, 4);
        return 0;
    }

    private static void fits() {
        due.range("28, fits: sheet", EdgesOfThoughtTest::heaps, (x, v) -> x.fits(v, 0), 0, 3);
        due.range("28, fits: what", EdgesOfThoughtTest::heaps, (x, v) -> x.fits(0, v), 0, 1);
        due.error("28, fits: NONE, the SHEET is missing", States::rich, x -> x.fits(3, 0), Due.NONE);
        due.error("28, fits: NONE, the SHEET has 6 numbers", x -> States.rich(x) + x.sheet(3, 8, 6), x -> x.fits(3, 0),
            Due.NONE);
        due.error("28, fits: NONE, the SHEET has 24 numbers", States::full, x -> x.fits(0, 0), Due.NONE);
        due.edge("28, fits: the SHEET has 5 numbers", EdgesOfThoughtTest::heaps, x -> x.fits(0, 0), 1);
        due.edge("28, fits: the SHEET has no numbers: any set", x -> States.rich(x) + x.sheet(3, 8, 0),
            x -> x.fits(3, 0), 15);
        due.edge("28, fits: the least of any set", x -> States.rich(x) + x.sheet(3, 8, 0), x -> x.fits(3, 1), 1);
        due.edge("28, fits: 255 sets of eight", x -> States.eight(x) + x.sheet(3, 8, 0), x -> x.fits(3, 0), 255);
        due.edge("28, fits: 0 sets of nobody", x -> x.sheet(3, 8, 0), x -> x.fits(3, 0), 0);
        due.error("28, fits: NONE of nobody", x -> x.sheet(3, 8, 0), x -> x.fits(3, 1), Due.NONE);
        due.edge("28, fits: 0 sets, no ERROR", x -> States.two(x) + Due.row(x, 3, 8, 1), x -> x.fits(3, 0) + x.told(2),
            0);
        due.error("28, fits: NONE, there is none", x -> States.two(x) + Due.row(x, 3, 8, 1), x -> x.fits(3, 1),
            Due.NONE);
        due.error("28, fits: BEYOND ahead of NONE, sheet 4", States::nothing, x -> x.fits(4, 0), Due.BEYOND);
        due.error("28, fits: BEYOND ahead of NONE, what 2", States::rich, x -> x.fits(3, 2), Due.BEYOND);
        due.error("28, fits: BEYOND ahead of NONE, what -1", States::rich, x -> x.fits(3, -1), Due.BEYOND);
    }

    private static void fits(String edge, int sort, int told, int many, int least) {
        Due.Act setup = x -> {
            States.people(x, 4);
            x.spoon(1, sort, 3);
            x.spoon(2, sort, 4);
            x.spoon(3, sort, 7);
            int[] heap = new int[sort + 1];
            heap[sort] = told;
            return Due.row(x, 1, 16, heap);
        };
        due.edge("28, fits: " + edge + " of SORT " + sort, setup, x -> x.fits(1, 0), many);
        due.edge("28, fits: the least when " + edge + " of SORT " + sort, setup, x -> x.fits(1, 1), least);
    }

    private static void fitsBy() {
        for (int sort = 0; sort < 5; sort++) {
            fits("one at least: 0 are of one that has none", sort, 0, 1, 1);
            fits("just 7 by four sets", sort, 7, 4, 6);
            fits("just 14, by all three", sort, 14, 2, 14);
            fits("just 3", sort, 3, 2, 2);
        }
        due.edge("28, fits: one at least, not the set of none",
            x -> x.person(0) + x.spoon(0, 0, 1) + Due.row(x, 0, 8, 0), x -> x.fits(0, 0), 0);
        due.edge("28, fits: a SORT that isn't told doesn't matter",
            x -> x.person(0) + x.spoon(0, 1, 9) + Due.row(x, 0, 8, 0), x -> x.fits(0, 0), 1);
        due.edge("28, fits: all SORTS that are told", x -> x.person(0) + x.spoon(0, 1, 9) + Due.row(x, 0, 8, 0, 8),
            x -> x.fits(0, 0), 0);
        due.edge("28, fits: 792 of eight", x -> States.full(x) + Due.row(x, 0, 16, 792, 792, 792, 792, 792),
            x -> x.fits(0, 1), 255);
        due.edge("28, fits: SPOONS stay", EdgesOfThoughtTest::heaps, x -> x.fits(0, 0), x -> x.hold(0, 3), 99);
    }
}
