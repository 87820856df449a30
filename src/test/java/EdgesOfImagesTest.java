/** The edges of promises 36 to 41: what an IMAGE keeps, numbers that wait, what is counted and told. */
public final class EdgesOfImagesTest {
    private static final Due due = new Due("EdgesOfImagesTest");

    public static void main(String[] args) {
        image();
        restore();
        kept();
        notKept();
        tell();
        check();
        checkPlaces();
        count();
        told();
        changesNothing();
        due.end();
    }

    private static void image() {
        due.edge("36, image: the first", States::nothing, x -> x.image(), 1);
        due.edge("36, image: the second", x -> x.image(), x -> x.image(), 2);
        due.edge("36, image: how often is not restored", x -> x.image() + x.image() + x.restore(), x -> x.image(), 3);
        due.edge("36, image: in place of one ahead", x -> x.year(5) + x.image() + x.year(6) + x.image() + x.year(7),
            x -> x.restore(), 6);
        due.edge("36, image: of nothing, in place of one ahead", x -> {
            x.image();
            States.one(x);
            x.image();
            return x.person(2);
        }, x -> x.restore() + x.count(0), 1);
        for (Look look : new Look[] {Look.PEOPLE, Look.TEXTS, Look.SHEETS}) {
            due.is("36, image: it changes nothing of " + look, Due.seen(look, States::rich, x -> x.image()),
                Due.seen(look, States::rich, x -> 0));
        }
    }

    private static void restore() {
        due.error("37, restore: NONE", States::one, x -> x.restore(), Due.NONE);
        due.edge("37, restore: YEAR 0", x -> x.image() + x.year(9), x -> x.restore(), 0);
        due.edge("37, restore: YEAR 999", States::full, x -> x.year(9), x -> x.restore(), 999);
        due.edge("37, restore: YEAR is as it was", x -> x.year(9) + x.image() + x.year(8) + x.restore(),
            x -> x.count(1), 9);
        due.edge("37, restore: the IMAGE stays", x -> x.year(9) + x.image() + x.year(8) + x.restore() + x.year(7),
            x -> x.restore(), 9);
        due.edge("37, restore: what is done then is not in the IMAGE", x -> {
            States.two(x);
            x.image();
            x.restore();
            x.spoon(0, 0, 9);
            x.tell(1);
            Due.text(x, 0, "3");
            Due.feed(x, "w");
            return x.lend(0, 1, 0, 1);
        }, x -> x.restore() + x.hold(0, 0) + x.count(3) + x.untell(0) + x.count(2) + x.owes(1, 0), 0);
        due.is("37, restore: all is as it was at first", Due.all(x -> x.image(), x -> {
            States.people(x, 8);
            Due.text(x, 0, "3");
            Due.text(x, 1, "3");
            Due.feed(x, "w");
            x.tell(1);
            x.lend(0, 1, 0, 1);
            x.loose(20);
            return x.restore();
        }), Due.all(x -> x.image(), x -> 0));
        due.is("37, restore: all is as it was when all was full", Due.all(States::full, x -> {
            Due.set(x, 0, 1, 2, 3, 4, 5);
            x.repay(1, 0, 3, 50);
            x.become(7, 5);
            x.text(0);
            x.untell(1);
            Due.feed(x, "w");
            x.check();
            x.tell(1);
            x.seed(9);
            x.year(3);
            return x.restore();
        }), Due.all(States::full, x -> 0));
    }

    /** Something is changed behind the IMAGE, and is as it was behind restore(). */
    private static void kept(String what, Due.Act change, Due.Act seen, long want) {
        due.edge("37, restore: " + what + " changed ahead", x -> States.rich(x) + x.image(), change,
            x -> seen.on(x) == want ? 1 : 0, 0);
        due.edge("37, restore: " + what, x -> States.rich(x) + x.image() + change.on(x) + x.restore(), seen, want);
    }

    private static void kept() {
        kept("PEOPLE", x -> x.person(0), x -> x.count(0), 4);
        kept("a KIND", x -> x.become(3, 0), x -> x.personIs(3, 0), 6);
        kept("an m", x -> x.become(3, 60), x -> x.personIs(3, 1), 3);
        kept("SPOONS", x -> x.spoon(3, 4, 1), x -> x.hold(3, 4), 30);
        kept("what is owed", x -> x.lend(3, 0, 2, 1), x -> x.owes(0, 3), 20);
        kept("what is paid back", x -> x.repay(3, 0, 2, 1), x -> x.owes(3, 0), 3);
        kept("YEAR", x -> x.year(1), x -> x.count(1), 70);
        kept("z", x -> x.seed(1), x -> x.count(5), 17);
        kept("how long THE TAPE is", x -> x.feed('+', 1), x -> x.count(2), 5);
        kept("THE TAPE", x -> x.text(0) + x.untell(0) + Due.feed(x, "7+7+7"), x -> x.text(0) + x.law(0, 1, 1, 0), 7);
        kept("the TEXT of USE 0", x -> x.untell(0), x -> x.law(0, 1, 4, 1), 4);
        kept("the TEXT of USE 1", x -> x.untell(1), x -> x.law(1, 1, 1, 1), 3);
        kept("a TEXT that was told anew", x -> x.text(1) + Due.text(x, 1, "9"), x -> x.law(1, 1, 1, 1), 3);
        kept("how many wait", x -> x.tell(1), x -> x.count(3), 4);
        kept("numbers that wait", x -> x.check() + x.tell(1) + x.tell(2) + x.tell(3) + x.tell(4), x -> x.check(), 0);
    }

    private static void notKept() {
        due.edge("36, image: SHEETS aren't kept", x -> States.rich(x) + x.image() + x.put(0, 0, 9) + x.restore(),
            x -> x.spoons(0, 0), x -> x.hold(0, 0), 9);
        due.edge("36, image: a SHEET that is made isn't unmade", x -> x.image() + x.sheet(0, 8, 2) + x.restore(),
            x -> x.judge(0), 0);
        due.error("36, image: a missing SHEET isn't kept",
            x -> States.rich(x) + x.image() + x.sheet(0, 0, 0) + x.restore(), x -> x.judge(0), Due.NONE);
        due.edge("36, image: THE TRACE isn't kept", x -> States.rich(x) + x.image() + x.voice(0, 0, 1) + x.restore(),
            x -> x.count(4), 1);
        due.edge("36, image: BODIES aren't kept", x -> States.rich(x) + x.image() + x.voice(0, 0, 1) + x.restore(),
            x -> x.body(0), 10);
        due.edge("36, image: what is told isn't kept", x -> x.image() + x.person(70) + x.restore(), x -> x.told(1), 1);
    }

    private static long waiting(DirtPress x, int n) {
        for (int i = 0; i < n; i++) {
            x.tell(i);
        }
        return n;
    }

    private static void tell() {
        due.edge("38, tell: the first", States::nothing, x -> x.tell(5), 1);
        due.edge("38, tell: the 24th", x -> waiting(x, 23), x -> x.tell(5), 24);
        due.error("38, tell: a 25th is FULL", x -> waiting(x, 24), x -> x.tell(5), Due.FULL);
        due.error("38, tell: FULL when all is", States::full, x -> x.tell(35), Due.FULL);
        due.edge("38, tell: the first again behind check()", x -> waiting(x, 24) + x.check(), x -> x.tell(5), 1);
        due.edge("38, tell: the least", States::nothing, x -> x.tell(Integer.MIN_VALUE), 1);
        due.edge("38, tell: the most", States::nothing, x -> x.tell(Integer.MAX_VALUE), 1);
    }

    private static void check() {
        due.edge("39, check: none wait", States::rich, x -> x.check(), x -> x.check(), 0);
        due.edge("39, check: none wait for nobody", States::nothing, x -> x.check(), 0);
        due.edge("39, check: all are right", States::rich, x -> x.check(), 0);
        due.edge("39, check: none wait then", States::rich, x -> x.check(), x -> x.count(3), 0);
        due.edge("39, check: none wait behind a wrong one", x -> States.rich(x) + x.spoon(0, 0, 0), x -> x.check(),
            x -> x.count(3), 0);
        due.edge("39, check: nobody is the first", x -> x.tell(0), x -> x.check(), 1);
        due.edge("39, check: nobody is the second", x -> States.one(x) + x.tell(0) + x.tell(0), x -> x.check(), 2);
        due.edge("39, check: nobody is the ninth", x -> {
            States.eight(x);
            for (int i = 0; i < 9; i++) {
                x.tell(0);
            }
            return 0;
        }, x -> x.check(), 9);
        due.edge("39, check: the eighth is somebody", x -> {
            States.eight(x);
            for (int i = 0; i < 8; i++) {
                x.tell(0);
            }
            return 0;
        }, x -> x.check(), 0);
        due.edge("39, check: less numbers than PEOPLE", x -> States.eight(x) + x.tell(0), x -> x.check(), 0);
        for (int k = 1; k <= 6; k++) {
            int of = k;
            due.edge("39, check: a wrong one is no ERROR, k " + k, x -> x.tell(0), x -> x.check(), x -> x.told(of), 0);
        }
    }

    private static void places(String edge, int want, int... numbers) {
        due.edge("39, check: " + edge, x -> {
            States.people(x, 3);
            Due.text(x, 1, "v*100+s");
            Due.set(x, 1, 99, 1, 0, 0, 0);
            for (int v : numbers) {
                x.tell(v);
            }
            return 0;
        }, x -> x.check(), want);
    }

    private static void checkPlaces() {
        int worth = 999 + 101 + 2 + 3 + 4;
        places("WORTH, not SPOONS", 0, 10, worth, 10);
        places("the first is one too many", 1, 11, worth, 10);
        places("the first is one too few", 1, 9, worth, 10);
        places("the second is off", 2, 10, worth + 1, 10);
        places("the last is off", 3, 10, worth, 9);
        places("the first that isn't so of two", 2, 10, 0, 0);
        places("nobody is the fourth, the last is off", 3, 10, worth, 0, 0);
        places("nobody is the fourth", 4, 10, worth, 10, 10);
        due.edge("39, check: of now, not as when it was told", x -> States.one(x) + x.tell(0) + x.spoon(0, 0, 1),
            x -> x.check(), 1);
    }

    private static void count() {
        due.range("40, count: what", States::rich, (x, v) -> x.count(v), 0, 5);
        int[] full = {8, 999, 60, 24, 1, 1};
        for (int what = 0; what <= 5; what++) {
            int of = what;
            due.edge("40, count: what " + what + " of a new object", States::nothing, x -> x.count(of),
                of == 5 ? 1 : 0);
            due.edge("40, count: what " + what + " when all is full", x -> States.full(x) + x.voice(0, 0, 1),
                x -> x.count(of), full[what]);
        }
        due.edge("40, count: z may be any number", x -> x.seed(-1000000001), x -> x.count(5) + x.told(1), -1000000001);
    }

    private static void told() {
        due.range("41, told: k", States::rich, (x, v) -> x.told(v), 1, 6);
        due.edge("41, told: k 0 is counted, too", x -> x.told(0), x -> x.told(1), 1);
        due.edge("41, told: k 7 is counted, too", x -> x.told(7), x -> x.told(1), 1);
        due.edge("41, told: k 1 is not counted", x -> x.told(1), x -> x.told(1), 0);
        Due.Act[] acts = {
            x -> x.person(70), x -> x.restore(), x -> x.odds(0, 0), x -> waiting(x, 25), x -> x.as(0, 6),
                x -> x.voice(0, 3, 1),
        };
        for (int k = 1; k <= 6; k++) {
            Due.Act act = acts[k - 1];
            Due.Act setup = k == 3 ? States::nothing : x -> x.person(0);
            for (int other = 1; other <= 6; other++) {
                int of = other;
                due.edge("41, told: once, LOW - " + k + ", by k " + other, setup, act, x -> x.told(of),
                    other == k ? 1 : 0);
            }
            int of = k;
            due.edge("41, told: LOW - " + k + " a third time", setup,
                x -> act.on(x) + x.check() + act.on(x) + x.check() + act.on(x), x -> x.told(of), 3);
        }
    }

    private static void asks(String edge, Due.Act ask) {
        due.is(edge + " changes nothing", Due.all(States::rich, ask), Due.all(States::rich, x -> 0));
    }

    /** What only asks, or only thinks. */
    private static void changesNothing() {
        asks("personIs", x -> x.personIs(2, 5) + x.personIs(2, 6));
        asks("as", x -> x.as(2, 1));
        asks("hold, gain", x -> x.hold(2, 0) + x.gain(2, 0));
        asks("owes", x -> x.owes(0, 3));
        asks("law", x -> x.law(0, 1, 2, 3) + x.law(1, 1, 2, 3));
        asks("then", x -> x.then(2, 0, 60));
        asks("clean", x -> x.clean(500, 0) + x.clean(1, 1));
        asks("parents", x -> x.parents(2, 0) + x.parents(2, 1));
        asks("falseSorts", x -> x.falseSorts(2));
        asks("kin", x -> x.kin(0, 2));
        asks("nets", x -> x.nets(0) + x.nets(1));
        asks("odds", x -> x.odds(9, 0) + x.odds(9, 1));
        asks("fits", x -> x.fits(0, 0) + x.fits(2, 0));
        asks("voice", x -> x.voice(2, 2, 5) + x.body(0));
        asks("judge", x -> x.judge(0));
        asks("count, told", x -> x.count(0) + x.told(1));
        asks("a PARTED voice", x -> x.become(0, 0) + x.voice(0, 3, 5) + x.become(0, 25));
    }
}
