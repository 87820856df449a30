/** The edges that stand under 'Terms', 1 and the head: PEOPLE, KINDS, SPOONS, YEARS, what is owed, DRAWS. */
public final class EdgesOfTermsTest {
    private static final Due due = new Due("EdgesOfTermsTest");
    private static final int PERSON = 0;
    private static final int BISHOP = 10;
    private static final int SWEEP = 20;
    private static final int INKER = 30;
    private static final int ABBOT = 40;
    private static final int DUSTER = 50;
    private static final int FOUNDLING = 60;

    public static void main(String[] args) {
        calls();
        errors();
        quotients();
        atFirst();
        people();
        gets();
        abbotsAndFoundlings();
        gain();
        yearsGoBy();
        poured();
        owes();
        noDraws();
        thefts();
        draws();
        due.end();
    }

    private static void calls() {
        due.edge("the 512th call of an object is answered", x -> {
            for (int i = 1; i < 512; i++) {
                x.image();
            }
            return 0;
        }, x -> x.image(), 512);
        due.edge("511 ERRORS are all told by the 512th call", x -> {
            for (int i = 1; i < 512; i++) {
                x.person(70);
            }
            return 0;
        }, x -> x.told(1), 511);
    }

    private static void errors() {
        due.edge("BEYOND is LOW - 1", States::nothing, x -> x.person(70), -1000000001);
        due.edge("NONE is LOW - 2", States::nothing, x -> x.restore(), -1000000002);
        due.edge("STATE is LOW - 3", States::nothing, x -> x.odds(0, 0), -1000000003);
        due.edge("FULL is LOW - 4", States::eight, x -> x.person(0), -1000000004);
        due.edge("KIND is LOW - 5", States::one, x -> x.as(0, 1), -1000000005);
        due.edge("PARTED is LOW - 6", x -> x.person(0), x -> x.voice(0, 3, 1), -1000000006);
    }

    private static void quotients() {
        due.edge("what is POURED of 0 and 1 is cut", States::two, x -> pour(x, 0, 1), 0);
        due.edge("the half that is stolen of 3 is cut", x -> thieves(x, 3, 0), x -> x.loose(1), 1);
        due.edge("an ABBOT's SPOONS by 10 are cut", x -> x.person(ABBOT + 4), x -> {
            x.spoon(0, 1, 29);
            return x.gain(0, 1);
        }, 2);
        due.edge("a quotient of a TEXT is cut toward 0 below 0", x -> Due.text(x, 0, "(0-7)/2"),
            x -> x.law(0, 0, 0, 0), -3);
        due.edge("a rest of a TEXT is that of a quotient cut toward 0", x -> Due.text(x, 0, "(0-7)%2"),
            x -> x.law(0, 0, 0, 0), -1);
        due.edge("a quotient by a number below 0 is cut toward 0", x -> Due.text(x, 0, "7/(0-2)"),
            x -> x.law(0, 0, 0, 0), -3);
        due.edge("a rest by a number below 0 is not below 0", x -> Due.text(x, 0, "7%(0-2)"), x -> x.law(0, 0, 0, 0),
            1);
        due.edge("an INKER airs x / 2 cut toward 0", x -> x.person(INKER), x -> x.voice(0, 2, -1), 0);
        due.edge("parts is cut toward 0 by a number above 0", x -> x.person(2), x -> x.voice(0, 3, -1), 0);
        due.edge("parts is cut toward 0 by a number below 0", x -> States.people(x, 2) + x.person(0),
            x -> x.voice(2, 3, 3), -1);
    }

    private static void atFirst() {
        for (int sort = 0; sort < 5; sort++) {
            int s = sort;
            due.edge("SPOONS of SORT " + s + " are 0 at first", x -> x.person(9), x -> x.hold(0, s), 0);
        }
        due.edge("YEAR is 0 at first", States::nothing, x -> x.count(1), 0);
        due.edge("z is 1 at first", States::nothing, x -> x.count(5), 1);
        due.edge("0 is owed at first", States::two, x -> x.owes(0, 1), 0);
        due.edge("0 is owed back at first", States::two, x -> x.owes(1, 0), 0);
        due.edge("there is no FATHER at first", States::one, x -> x.personIs(0, 2), -1);
        due.edge("there is no MOTHER at first", States::one, x -> x.personIs(0, 3), -1);
        for (int sheet = 0; sheet < 4; sheet++) {
            int s = sheet;
            due.error("SHEET " + s + " is missing at first", States::one, x -> x.spoons(0, s), Due.NONE);
        }
    }

    private static void people() {
        due.edge("the first of the PEOPLE is 0", States::nothing, x -> x.person(5), 0);
        due.edge("the next is 1", States::one, x -> x.person(5), 1);
        due.edge("the eighth of the PEOPLE is let in", States::seven, x -> x.person(5), 7);
        due.edge("an eighth that is a child is let in", States::seven, x -> x.child(5, 0, 6), 7);
        due.error("a ninth of the PEOPLE is not", States::eight, x -> x.person(5), Due.FULL);
        due.error("a ninth that is a child is not", States::eight, x -> x.child(5, 0, 6), Due.FULL);
        int[] kms = {0, 9, 10, 19, 20, 29, 30, 39, 40, 49, 50, 59, 60, 69};
        for (int km : kms) {
            due.edge("km " + km + " has its KIND", x -> x.person(km), x -> x.personIs(0, 0), km / 10);
            due.edge("km " + km + " has its m", x -> x.person(km), x -> x.personIs(0, 1), km % 10);
        }
        due.edge("SPOONS 0 are let in", States::rich, x -> x.spoon(0, 3, 0) * 100 + x.hold(0, 3), 9900);
        due.edge("SPOONS 99 are let in", States::rich, x -> x.spoon(0, 2, 99) * 100 + x.hold(0, 2), 99);
        due.error("SPOONS -1 are not", States::rich, x -> x.spoon(0, 0, -1), Due.BEYOND);
        due.error("SPOONS 100 are not", States::rich, x -> x.spoon(0, 0, 100), Due.BEYOND);
    }

    private static void gets(String edge, int km, int sort, int want) {
        due.edge("GETS: " + edge, x -> x.person(km), x -> x.gain(0, sort), want);
    }

    private static void gets() {
        gets("a PERSON of m 0, of SORT 0", PERSON, 0, 1);
        gets("a PERSON of m 0, of SORT 4", PERSON, 4, 0);
        gets("a PERSON of m 4, of SORT 4", PERSON + 4, 4, 1);
        gets("a PERSON of m 4, of SORT 0", PERSON + 4, 0, 0);
        gets("a PERSON of m 5, of SORT 0", PERSON + 5, 0, 1);
        gets("a PERSON of m 9, of SORT 4", PERSON + 9, 4, 1);
        gets("a BISHOP of m 1, of SORT 0", BISHOP + 1, 0, 2);
        gets("a BISHOP of m 5, of SORT 0", BISHOP + 5, 0, 3);
        gets("a BISHOP of m 1, of SORT 1", BISHOP + 1, 1, 1);
        gets("a BISHOP of m 1, of SORT 4", BISHOP + 1, 4, 0);
        gets("a SWEEP of m 9, of SORT 4", SWEEP + 9, 4, 3);
        gets("a SWEEP of m 9, of SORT 0", SWEEP + 9, 0, 0);
        gets("an INKER of m 0, of SORT 4", INKER, 4, 0);
        gets("an INKER of m 4, of SORT 4", INKER + 4, 4, 4);
        gets("an INKER of m 9, of SORT 4", INKER + 9, 4, 9);
        gets("an INKER of m 9, of SORT 3", INKER + 9, 3, 0);
        gets("an INKER of m 3, of SORT 3", INKER + 3, 3, 1);
        gets("a DUSTER of m 0, of SORT 0", DUSTER, 0, 2);
        gets("a DUSTER of m 0, of SORT 1: below 0", DUSTER, 1, -1);
    }

    private static void has(String edge, int km, int sort, int has, int year, int want) {
        due.edge("GETS: " + edge, x -> {
            x.person(km);
            x.year(year);
            return x.spoon(0, sort, has);
        }, x -> x.gain(0, sort), want);
    }

    private static void abbotsAndFoundlings() {
        has("an ABBOT that has none, as a BISHOP, of SORT 0", ABBOT + 1, 0, 0, 0, 2);
        has("an ABBOT that has none, as a BISHOP, of m 1's SORT", ABBOT + 1, 1, 0, 0, 1);
        has("an ABBOT that has 9", ABBOT, 1, 9, 0, 0);
        has("an ABBOT that has 10", ABBOT, 1, 10, 0, 1);
        has("an ABBOT that has 19", ABBOT, 1, 19, 0, 1);
        has("an ABBOT that has 20", ABBOT, 1, 20, 0, 2);
        has("an ABBOT that has 99", ABBOT, 1, 99, 0, 9);
        due.edge("GETS: an ABBOT that has 99 of another SORT", x -> x.person(ABBOT) + x.spoon(0, 2, 99),
            x -> x.gain(0, 1), 0);
        has("a FOUNDLING in YEAR 0", FOUNDLING + 4, 4, 0, 0, 1);
        has("a FOUNDLING in YEAR 1", FOUNDLING + 4, 4, 0, 1, 0);
        has("a FOUNDLING in YEAR 998", FOUNDLING + 4, 4, 0, 998, 1);
        has("a FOUNDLING in YEAR 999", FOUNDLING + 4, 4, 0, 999, 0);
        has("a FOUNDLING in YEAR 0, of another SORT", FOUNDLING + 4, 0, 0, 0, 0);
    }

    private static void gain() {
        has("9 is a GAIN of 9", ABBOT, 0, 60, 0, 9);
        has("10 is a GAIN of 9, without a TEXT", ABBOT, 0, 70, 0, 9);
        int[][] held = {{-10, -9}, {-9, -9}, {-8, -8}, {0, 0}, {8, 8}, {9, 9}, {10, 9},
            {Integer.MIN_VALUE, -9}, {Integer.MAX_VALUE, 9}};
        for (int[] h : held) {
            due.edge("GAIN without a TEXT by w " + h[0], States::nothing, x -> x.law(0, h[0], 0, 0), h[1]);
            due.edge("GAIN by a TEXT that gives " + h[0], x -> Due.text(x, 0, "y"), x -> x.law(0, 0, 0, h[0]), h[1]);
        }
        int[][] worth = {{-1, 0}, {0, 0}, {1, 1}, {998, 998}, {999, 999}, {1000, 999},
            {Integer.MIN_VALUE, 0}, {Integer.MAX_VALUE, 999}};
        for (int[] h : worth) {
            due.edge("WORTH without a TEXT by v " + h[0], States::nothing, x -> x.law(1, h[0], 0, 0), h[1]);
            due.edge("WORTH by a TEXT that gives " + h[0], x -> Due.text(x, 1, "n"), x -> x.law(1, 0, 0, h[0]), h[1]);
        }
        due.edge("WORTH of one is of all SORTS: 5 times 999", x -> x.person(0) + Due.text(x, 1, "1000"),
            x -> x.personIs(0, 5), 4995);
        due.edge("WORTH of one is 0 where each SORT's is below 0", x -> x.person(0) + Due.text(x, 1, "0-1"),
            x -> x.personIs(0, 5), 0);
        due.edge("WORTH of each SORT is held ahead of the sum", x -> x.person(0) + Due.text(x, 1, "s*1000-2000"),
            x -> x.personIs(0, 5), 999 + 999);
    }

    private static void year(String edge, String text, int has, int want) {
        due.edge("a YEAR goes by: " + edge, x -> {
            x.person(0);
            Due.text(x, 0, text);
            return Due.set(x, 0, has, has, has, has, has);
        }, x -> x.years(1) + x.personIs(0, 4), 1 + 5 * want);
    }

    private static void yearsGoBy() {
        year("98 and 1 more are 99", "1", 98, 99);
        year("99 and 1 more are 99", "1", 99, 99);
        year("98 and 9 more are 99", "9", 98, 99);
        year("90 and 9 more are 99", "9", 90, 99);
        year("89 and 9 more are 98", "9", 89, 98);
        year("99 and 1 less are 98", "0-1", 99, 98);
        year("1 and 1 less are 0", "0-1", 1, 0);
        year("0 and 1 less are 0", "0-1", 0, 0);
        year("9 and 9 less are 0", "0-9", 9, 0);
        year("10 and 9 less are 1", "0-9", 10, 1);
        year("8 and 9 less are 0", "0-9", 8, 0);
        due.edge("a YEAR goes by in YEAR 0, which is even", x -> x.person(FOUNDLING), x -> x.years(1),
            x -> x.hold(0, 0), 1);
        due.edge("a YEAR goes by in YEAR 1, which is not", x -> x.person(FOUNDLING) + x.year(1), x -> x.years(1),
            x -> x.hold(0, 0), 0);
        due.edge("a YEAR goes by for an ABBOT by what he has then", x -> x.person(ABBOT + 1) + x.spoon(0, 0, 9),
            x -> x.years(2), x -> x.hold(0, 0), 9 + 2 + 3);
        due.edge("a YEAR goes by for the last of eight", States::eight, x -> x.years(1), x -> x.hold(7, 2), 1);
        due.edge("a YEAR goes by without PEOPLE", States::nothing, x -> x.years(1), 1);
    }

    private static long pour(DirtPress x, int one, int other) {
        x.spoon(0, 4, one);
        x.spoon(1, 4, other);
        return x.hold(x.child(0, 0, 1), 4);
    }

    private static void poured() {
        int[][] all = {{0, 0, 0}, {1, 1, 1}, {0, 99, 49}, {99, 98, 98}, {98, 99, 98}, {99, 99, 99}};
        for (int[] p : all) {
            due.edge("POURED of " + p[0] + " and " + p[1], States::two, x -> pour(x, p[0], p[1]), p[2]);
        }
        due.edge("POURED by SORTS, not together", x -> {
            States.two(x);
            Due.set(x, 0, 1, 1, 1, 1, 1);
            return x.child(0, 0, 1);
        }, x -> x.personIs(2, 4), 0);
    }

    private static void owes() {
        due.edge("998 may be owed", States::two, x -> States.owed(x, 0, 1, 998), 998);
        due.edge("999 may be owed", States::two, x -> States.owed(x, 0, 1, 999), 999);
        due.error("1000 may not be owed", x -> States.two(x) + States.owed(x, 0, 1, 999) + x.spoon(0, 0, 1),
            x -> x.lend(0, 1, 0, 1), Due.STATE);
        due.edge("999 may be owed both ways", x -> States.two(x) + States.owed(x, 0, 1, 999),
            x -> States.owed(x, 1, 0, 999), x -> x.owes(1, 0), 999);
        due.edge("0 is owed when all is paid back", x -> States.two(x) + States.owed(x, 0, 1, 7),
            x -> x.repay(1, 0, 0, 7), 0);
        due.edge("BALANCE is 0 when as much is owed both ways", x -> {
            States.two(x);
            States.owed(x, 0, 1, 7);
            return x.lend(1, 0, 0, 7);
        }, x -> x.nets(1), 0);
        due.edge("BALANCE is 1 when one less is owed", x -> {
            States.two(x);
            States.owed(x, 0, 1, 7);
            return x.lend(1, 0, 0, 6);
        }, x -> x.nets(1), 1);
    }

    private static int next(int z) {
        return z * 1103515245 + 12345;
    }

    private static int drawn(int z) {
        return next(z) >>> 8;
    }

    private static boolean draws(int z, int people, int loser, int thief, int sort) {
        return drawn(z) % people == loser && drawn(next(z)) % people == thief && drawn(next(next(z))) % 5 == sort;
    }

    /** A seed by which these are drawn, all by numbers below 0. */
    private static int seedFor(int people, int loser, int thief, int sort) {
        for (int z = 1; z < 1000000; z++) {
            boolean below = next(z) < 0 && next(next(z)) < 0 && next(next(next(z))) < 0;
            if (below && draws(z, people, loser, thief, sort)) {
                return z;
            }
        }
        return 0;
    }

    private static int seedForTwoYears() {
        for (int z = 1; z < 1000000; z++) {
            if (draws(z, 2, 0, 1, 4) && draws(next(next(next(z))), 2, 0, 1, 4)) {
                return z;
            }
        }
        return 0;
    }

    /** Two of the PEOPLE who gain nothing; the next theft is from 0 to 1, of SORT 4. */
    private static long thieves(DirtPress x, int has, int other) {
        x.person(0);
        x.person(0);
        Due.text(x, 0, "0");
        x.spoon(0, 4, has);
        x.spoon(1, 4, other);
        return x.seed(seedFor(2, 0, 1, 4));
    }

    private static void noDraws() {
        due.edge("without PEOPLE there are no draws", States::nothing, x -> x.loose(20), x -> x.count(5), 1);
        due.edge("without PEOPLE the YEARS go by", States::nothing, x -> x.loose(20), x -> x.count(1), 20);
        due.edge("by one of the PEOPLE there are three draws a YEAR", States::one, x -> x.loose(1), x -> x.count(5),
            next(next(next(1))));
        due.edge("nothing is stolen by one and the same", x -> x.person(0) + Due.set(x, 0, 50, 50, 50, 50, 50),
            x -> x.loose(20), 0);
        due.edge("one and the same keeps all", x -> {
            x.person(0);
            Due.text(x, 0, "0");
            return Due.set(x, 0, 50, 50, 50, 50, 50);
        }, x -> x.loose(20), x -> x.personIs(0, 4), 250);
    }

    private static void thefts() {
        int[][] thefts = {
            {0, 0, 0}, {1, 0, 0}, {2, 0, 1}, {3, 0, 1}, {99, 0, 49}, {99, 99, 0}, {99, 98, 0}, {99, 97, 1},
            {99, 96, 1}, {99, 95, 2}, {4, 95, 2}, {3, 95, 1}, {5, 95, 2}, {0, 50, 0},
        };
        for (int[] t : thefts) {
            String edge = t[0] + " are there, the other one has " + t[1];
            due.edge("stolen when " + edge, x -> thieves(x, t[0], t[1]), x -> x.loose(1), t[2]);
            due.edge("who is left when " + edge, x -> thieves(x, t[0], t[1]), x -> x.loose(1), x -> x.hold(0, 4),
                t[0] - t[2]);
            due.edge("who steals when " + edge, x -> thieves(x, t[0], t[1]), x -> x.loose(1), x -> x.hold(1, 4),
                t[1] + t[2]);
        }
        due.edge("what is stolen in two YEARS is told together", x -> thieves(x, 99, 0) + x.seed(seedForTwoYears()),
            x -> x.loose(2), 49 + 25);
        due.edge("the theft is ahead of the YEAR's GAIN", x -> thieves(x, 1, 0) + x.untell(0) + Due.text(x, 0, "s=4"),
            x -> x.loose(1), 0);
    }

    private static void drawn(String edge, int people, int loser, int thief, int sort) {
        due.edge("drawn: " + edge, x -> {
            States.people(x, people);
            x.spoon(loser, sort, 80);
            Due.text(x, 0, "0");
            return x.seed(seedFor(people, loser, thief, sort));
        }, x -> x.loose(1) * 10000 + x.hold(loser, sort) * 100 + x.hold(thief, sort), 404040);
    }

    private static void draws() {
        drawn("the first steals from the last of eight, SORT 0", 8, 7, 0, 0);
        drawn("the last of eight steals from the first, SORT 4", 8, 0, 7, 4);
        drawn("the last of three steals from the first, SORT 1", 3, 0, 2, 1);
        due.edge("z wraps as an int", x -> x.person(0) + x.seed(Integer.MAX_VALUE), x -> x.loose(1), x -> x.count(5),
            next(next(next(Integer.MAX_VALUE))));
        due.edge("z below 0 wraps as an int", x -> x.person(0) + x.seed(Integer.MIN_VALUE), x -> x.loose(1),
            x -> x.count(5), next(next(next(Integer.MIN_VALUE))));
        due.edge("three draws in each of 20 YEARS", States::one, x -> x.loose(20), x -> x.count(5), sixty(1));
    }

    private static int sixty(int z) {
        int last = z;
        for (int i = 0; i < 60; i++) {
            last = next(last);
        }
        return last;
    }
}
