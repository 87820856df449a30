import java.util.Random;

/** Runs of calls by chance (the same each time), on a DirtPress and on the Model. */
public final class ModelTest {
    private static final Due due = new Due("ModelTest");
    private static final int RUNS = 600;
    private static final int CALLS = 512;
    private static final String[] TEXTS = {"w", "s", "y", "v", "n", "1", "0", "7", "99", "2024", "12345"};
    private static final String[] SIGNS = {"+", "-", "*", "/", "%", "<", "=", ">", "|", "&"};

    private final Random random;
    private final DirtPress x = new DirtPress();
    private final Model m = new Model();
    private int calls;

    private ModelTest(int seed) {
        random = new Random(seed);
    }

    public static void main(String[] args) {
        for (int seed = 0; seed < RUNS; seed++) {
            new ModelTest(seed).run(seed);
        }
        for (int seed = 0; seed < RUNS / 2; seed++) {
            new ModelTest(seed).lendMuch(2 + seed % 7);
        }
        due.end();
    }

    /** Small loans among many, so that groups of all sizes net out. */
    private void lendMuch(int people) {
        for (int p = 0; p < people; p++) {
            int at = p;
            is("person", x.person(0), m.call(() -> m.person(0)));
            is("spoon", x.spoon(at, 0, 50), m.call(() -> m.spoon(at, 0, 50)));
        }
        while (calls < 500) {
            int p = random.nextInt(people);
            int q = random.nextInt(people);
            int n = 1 + random.nextInt(3);
            boolean back = random.nextInt(3) == 0;
            is("loan", back ? x.repay(p, q, 0, n) : x.lend(p, q, 0, n),
                m.call(() -> back ? m.repay(p, q, 0, n) : m.lend(p, q, 0, n)));
            is("nets(0)", x.nets(0), m.call(() -> m.nets(0)));
            is("nets(1)", x.nets(1), m.call(() -> m.nets(1)));
        }
    }

    private void run(int seed) {
        while (calls < CALLS - 24) {
            step(seed % 3 == 0 ? random.nextInt(40) : random.nextInt(60) % 46);
        }
        for (int i = 0; i < 6; i++) {
            int k = i;
            is("count " + i, x.count(i), m.call(() -> m.count(k)));
            is("told " + (i + 1), x.told(i + 1), m.call(() -> m.told(k + 1)));
        }
    }

    private void is(String call, long got, long want) {
        calls++;
        due.is("call " + calls + ", " + call, got, want);
    }

    private int to(int most) {
        return random.nextInt(40) == 0 ? (random.nextBoolean() ? -1 : most + 1) : random.nextInt(most + 1);
    }

    private int who() {
        return random.nextInt(12) == 0 ? to(8) : to(Math.max(0, m.now.people.size() - 1));
    }

    private int any() {
        int[] some = {0, 1, -1, 5, 99, 100, 127, 128, 200, 255, 256, 999, 65536 + 3, Integer.MAX_VALUE,
            Integer.MIN_VALUE, random.nextInt(), random.nextInt(100), random.nextInt(100), random.nextInt(600)};
        return some[random.nextInt(some.length)];
    }

    private String grown(int depth, int use) {
        int form = random.nextInt(depth > 4 ? 2 : 7);
        if (form < 2) {
            int name = random.nextInt(8);
            return name < 3 ? String.valueOf((use == 0 ? "wsy" : "vsn").charAt(name)) : TEXTS[random.nextInt(TEXTS.length)];
        }
        if (form == 2) {
            return "!" + grown(depth + 2, use);
        }
        if (form == 3) {
            return "(" + grown(depth + 1, use) + ")";
        }
        return grown(depth + 1, use) + SIGNS[random.nextInt(SIGNS.length)] + grown(depth + 1, use);
    }

    private void tellText(int use) {
        StringBuilder text = new StringBuilder(grown(0, use));
        if (text.length() > 60) {
            text.setLength(60);
        }
        if (random.nextInt(3) == 0) {
            text.setCharAt(random.nextInt(text.length()), "wsyvn019+-*/%<=>|&!() \u00e9".charAt(random.nextInt(23)));
        }
        for (int at = 0; at < text.length(); at += 8) {
            int n = Math.min(8, text.length() - at);
            long word = random.nextLong() << 8 * n & (n == 8 ? 0 : -1);
            for (int i = 0; i < n; i++) {
                word |= (long) text.charAt(at + i) << 8 * i;
            }
            long w = word;
            is("feed of " + text, x.feed(w, n), m.call(() -> m.feed(w, n)));
        }
        is("text(" + use + ") of " + text, x.text(use), m.call(() -> m.text(use)));
    }

    private void step(int which) {
        if (which < 13) {
            people(which);
        } else if (which < 20) {
            texts(which);
        } else if (which < 29) {
            thoughts(which);
        } else {
            others(which);
        }
    }

    private void people(int which) {
        int p = who();
        int q = who();
        int s = to(4);
        int v = to(99);
        int km = to(69);
        switch (which) {
            case 0: is("person", x.person(km), m.call(() -> m.person(km))); break;
            case 1: is("child", x.child(km, p, q), m.call(() -> m.child(km, p, q))); break;
            case 2: int what = to(6); is("personIs", x.personIs(p, what), m.call(() -> m.personIs(p, what))); break;
            case 3: is("become", x.become(p, km), m.call(() -> m.become(p, km))); break;
            case 4: int kind = to(6); is("as", x.as(p, kind), m.call(() -> m.as(p, kind))); break;
            case 5: is("hold", x.hold(p, s), m.call(() -> m.hold(p, s))); break;
            case 6: is("spoon", x.spoon(p, s, v), m.call(() -> m.spoon(p, s, v))); break;
            case 7: is("gain", x.gain(p, s), m.call(() -> m.gainNow(p, s))); break;
            case 8:
            case 9: is("lend", x.lend(p, q, s, v / 2), m.call(() -> m.lend(p, q, s, v / 2))); break;
            case 10:
            case 11: is("repay", x.repay(p, q, s, v / 3), m.call(() -> m.repay(p, q, s, v / 3))); break;
            default: is("owes", x.owes(p, q), m.call(() -> m.owes(p, q))); break;
        }
    }

    private void texts(int which) {
        int use = to(1);
        int a = any();
        int b = any();
        int c = any();
        switch (which) {
            case 13: tellText(use); break;
            case 14: is("untell", x.untell(use), m.call(() -> m.untell(use))); break;
            case 15: is("law", x.law(use, a, b, c), m.call(() -> m.law(use, a, b, c))); break;
            case 16: int n = random.nextInt(4) == 0 ? to(60) : to(9); is("years", x.years(n), m.call(() -> m.years(n))); break;
            case 17: int l = to(20); is("loose", x.loose(l), m.call(() -> m.loose(l))); break;
            case 18: int y = to(999); is("year", x.year(y), m.call(() -> m.year(y))); break;
            default: is("seed", x.seed(a), m.call(() -> m.seed(a))); break;
        }
    }

    private void thoughts(int which) {
        int p = who();
        int q = who();
        int s = to(4);
        int t = to(500) >> random.nextInt(4);
        int one = to(1);
        int sheet = to(3);
        switch (which) {
            case 20: int n = to(60); is("then", x.then(p, s, n), m.call(() -> m.then(p, s, n))); break;
            case 21: is("clean", x.clean(t, one), m.call(() -> m.clean(t, one))); break;
            case 22: int w = to(2); is("parents", x.parents(p, w), m.call(() -> m.parents(p, w))); break;
            case 23: is("falseSorts", x.falseSorts(p), m.call(() -> m.falseSorts(p))); break;
            case 24: is("kin", x.kin(p, q), m.call(() -> m.kin(p, q))); break;
            case 25:
            case 26: is("nets", x.nets(one), m.call(() -> m.nets(one))); break;
            case 27: is("odds", x.odds(t, one), m.call(() -> m.odds(t, one))); break;
            default: tellHeap(); is("fits", x.fits(sheet, one), m.call(() -> m.fits(sheet, one))); break;
        }
    }

    /** Numbers that some set of people could have. */
    private void tellHeap() {
        int sheet = random.nextInt(4);
        if (m.rows[sheet] == null || random.nextBoolean()) {
            return;
        }
        int set = random.nextInt(256);
        for (int i = 0; i < m.rows[sheet].length && i < 5; i++) {
            int sum = 0;
            for (int p = 0; p < m.now.people.size(); p++) {
                sum += (set >> p & 1) * m.now.people.get(p).has[i];
            }
            int at = i;
            int v = sum;
            is("put", x.put(sheet, at, v), m.call(() -> m.put(sheet, at, v)));
        }
    }

    private void others(int which) {
        int p = who();
        int sheet = to(3);
        int other = to(3);
        int v = any();
        int i = to(7);
        int j = to(5);
        switch (which) {
            case 29:
            case 40: int voice = to(3); is("voice", x.voice(p, voice, v), m.call(() -> m.voice(p, voice, v))); break;
            case 30:
            case 41: is("body", x.body(i), m.call(() -> m.body(i))); break;
            case 31: int n = random.nextBoolean() ? to(5) : to(24); int of = to(11) / 3 * 8 + (random.nextInt(30) == 0 ? 1 : 0);
                int bits = of == 24 ? 32 : of; is("sheet", x.sheet(sheet, bits, n), m.call(() -> m.sheet(sheet, bits, n))); break;
            case 32:
            case 42: is("put", x.put(sheet, i, v), m.call(() -> m.put(sheet, i, v))); break;
            case 33: is("move", x.move(sheet, i, other, j, i / 2), m.call(() -> m.move(sheet, i, other, j, i / 2))); break;
            case 34: is("spoons", x.spoons(p, sheet), m.call(() -> m.spoons(p, sheet))); break;
            case 35:
            case 43: judged(sheet); is("judge", x.judge(sheet), m.call(() -> m.judge(sheet))); break;
            case 36: is("image", x.image(), m.call(() -> m.image())); break;
            case 37: is("restore", x.restore(), m.call(() -> m.restore())); break;
            case 38:
            case 44: told(i); break;
            case 39: int c = to(5); is("count", x.count(c), m.call(() -> m.count(c))); break;
            default: int k = 1 + to(5); is("told", x.told(k), m.call(() -> m.told(k))); break;
        }
    }

    private void judged(int sheet) {
        for (int i = 0; sheet >= 0 && sheet < 4 && i < m.now.people.size() && i < 3; i++) {
            int at = i;
            int sum = m.now.people.get(i).sum();
            is("put", x.put(sheet, at, sum), m.call(() -> m.put(sheet, at, sum)));
        }
    }

    private void told(int i) {
        if (random.nextInt(3) == 0) {
            is("check", x.check(), m.call(() -> m.check()));
            return;
        }
        int at = m.now.waiting.size();
        int v = at < m.now.people.size() && random.nextInt(4) > 0 ? m.worth(at) : i;
        is("tell", x.tell(v), m.call(() -> m.tell(v)));
    }
}
