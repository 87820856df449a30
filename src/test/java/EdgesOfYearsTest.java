/** The edges of promises 17 to 20: how many YEARS go by, and up to which one. */
public final class EdgesOfYearsTest {
    private static final Due due = new Due("EdgesOfYearsTest");

    public static void main(String[] args) {
        years();
        yearsState();
        loose();
        looseState();
        year();
        seed();
        due.end();
    }

    private static void years() {
        due.range("17, years: n", States::rich, (x, v) -> x.years(v), 1, 60);
        due.range("17, years: n, of nobody", States::nothing, (x, v) -> x.years(v), 1, 60);
        due.edge("17, years: 1 is one YEAR's GAIN", States::one, x -> x.years(1), x -> x.hold(0, 1), 1);
        due.edge("17, years: 60 are 60 YEARS' GAIN", States::one, x -> x.years(60), x -> x.hold(0, 1), 60);
        due.edge("17, years: each with the YEAR's GAIN", x -> x.person(0) + Due.text(x, 0, "y=3|y=5"),
            x -> x.years(5) * 100 + x.personIs(0, 4), 505);
        due.edge("17, years: up to the one ahead of YEAR", x -> x.person(0) + Due.text(x, 0, "y=3|y=5"),
            x -> x.years(6) * 100 + x.personIs(0, 4), 610);
        due.edge("17, years: z stays", States::rich, x -> x.years(3), x -> x.count(5), 17);
    }

    private static void yearsState() {
        due.edge("17, years: 1 to 999", x -> States.one(x) + x.year(998), x -> x.years(1), 999);
        due.error("17, years: 1 to 1000", x -> States.one(x) + x.year(999), x -> x.years(1), Due.STATE);
        due.edge("17, years: 60 to 999", x -> States.one(x) + x.year(939), x -> x.years(60), 999);
        due.error("17, years: 60 to 1000", x -> States.one(x) + x.year(940), x -> x.years(60), Due.STATE);
        due.error("17, years: STATE", States::full, x -> x.years(60), Due.STATE);
        due.error("17, years: BEYOND ahead of STATE, n 0", States::full, x -> x.years(0), Due.BEYOND);
        due.error("17, years: BEYOND ahead of STATE, n 61", States::full, x -> x.years(61), Due.BEYOND);
        due.error("17, years: BEYOND ahead of STATE, n -1", States::full, x -> x.years(-1), Due.BEYOND);
    }

    private static void loose() {
        due.range("18, loose: n", States::rich, (x, v) -> x.loose(v), 1, 20);
        due.range("18, loose: n, of nobody", States::nothing, (x, v) -> x.loose(v), 1, 20);
        due.edge("18, loose: nothing is stolen from nobody", States::nothing, x -> x.loose(20), 0);
        due.edge("18, loose: nothing is stolen where nothing is", x -> States.eight(x) + Due.text(x, 0, "0"),
            x -> x.loose(20), 0);
        due.edge("18, loose: nothing is stolen where all have 99", x -> States.full(x) + x.year(0), x -> x.loose(20),
            0);
        due.edge("18, loose: 1 is one YEAR", States::one, x -> x.loose(1), x -> x.count(1), 1);
        due.edge("18, loose: 1 is one YEAR's GAIN", States::one, x -> x.loose(1), x -> x.hold(0, 1), 1);
        due.edge("18, loose: 20 are 20 YEARS", States::one, x -> x.loose(20), x -> x.count(1), 20);
        due.edge("18, loose: 20 are 20 YEARS' GAIN", States::one, x -> x.loose(20), x -> x.hold(0, 1), 20);
    }

    private static void looseState() {
        due.edge("18, loose: 1 to 999", x -> States.one(x) + x.year(998), x -> x.loose(1), x -> x.count(1), 999);
        due.error("18, loose: 1 to 1000", x -> States.one(x) + x.year(999), x -> x.loose(1), Due.STATE);
        due.edge("18, loose: 20 to 999", x -> States.one(x) + x.year(979), x -> x.loose(20), x -> x.count(1), 999);
        due.error("18, loose: 20 to 1000", x -> States.one(x) + x.year(980), x -> x.loose(20), Due.STATE);
        due.error("18, loose: STATE", States::full, x -> x.loose(20), Due.STATE);
        due.error("18, loose: BEYOND ahead of STATE, n 0", States::full, x -> x.loose(0), Due.BEYOND);
        due.error("18, loose: BEYOND ahead of STATE, n 21", States::full, x -> x.loose(21), Due.BEYOND);
        due.error("18, loose: BEYOND ahead of STATE, n -1", States::full, x -> x.loose(-1), Due.BEYOND);
    }

    private static void year() {
        due.range("19, year: v", States::rich, (x, v) -> x.year(v), 0, 999);
        due.edge("19, year: what it was, 0", States::nothing, x -> x.year(999), 0);
        due.edge("19, year: what it was, 999", States::full, x -> x.year(0), 999);
        due.edge("19, year: becomes 999", States::nothing, x -> x.year(999), x -> x.count(1), 999);
        due.edge("19, year: becomes 0", States::full, x -> x.year(0), x -> x.count(1), 0);
        due.edge("19, year: no GAIN goes by", States::one, x -> x.year(9), x -> x.personIs(0, 4), 0);
    }

    private static void seed() {
        due.edge("20, seed: what it was, 1 at first", States::nothing, x -> x.seed(0), 1);
        for (int v : new int[] {0, -1, 1, Integer.MAX_VALUE, Integer.MIN_VALUE, -1000000001}) {
            due.edge("20, seed: becomes " + v, x -> x.seed(v), x -> x.count(5), v);
            due.edge("20, seed: what it was, " + v, x -> x.seed(v), x -> x.seed(3), v);
        }
        due.edge("20, seed: any number is no ERROR", x -> x.seed(-1000000001) + x.seed(0), x -> x.told(1), 0);
    }
}
