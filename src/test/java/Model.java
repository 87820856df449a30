import java.util.ArrayList;
import java.util.List;

/** A second writing of the document, by other means than DirtPress: people that are objects, exceptions for ERRORS. */
final class Model {
    @SuppressWarnings("serial")
    static final class Err extends RuntimeException {
        final int k;

        Err(int k) {
            super(null, null, false, false);
            this.k = k;
        }
    }

    interface Answer {
        int get();
    }

    static class Person {
        final List<Integer> trace;
        final int k;
        final int m;

        Person(List<Integer> trace, int k, int m) {
            this.trace = trace;
            this.k = k;
            this.m = m;
        }

        void at(int body) {
            if (trace.size() < 30) {
                trace.add(body);
            }
        }

        int washes(int x) { at(10); return x + k; }
        int wrings(int x) { at(11); return washes(x) * 2; }
        int airs(int x) { at(12); return wrings(x) - m; }
        int parts(int x) { at(13); need(m != k, Due.PARTED); return x / (m - k); }
        int gets(int s, int[] has, int y) { return m % 5 == s ? 1 : 0; }
    }

    static class Bishop extends Person {
        Bishop(List<Integer> t, int k, int m) { super(t, k, m); }
        @Override int washes(int x) { at(20); return super.washes(x) - 4; }
        @Override int parts(int x) { at(21); return super.parts(x) + wrings(1); }
        @Override int gets(int s, int[] has, int y) { return super.gets(s, has, y) + (s == 0 ? 2 : 0); }
    }

    static class Sweep extends Person {
        Sweep(List<Integer> t, int k, int m) { super(t, k, m); }
        @Override int wrings(int x) { at(30); return 0 - super.wrings(x); }
        @Override int gets(int s, int[] has, int y) { return 3 * super.gets(s, has, y); }
    }

    static class Inker extends Person {
        Inker(List<Integer> t, int k, int m) { super(t, k, m); }
        @Override int airs(int x) { at(40); return super.airs(x / 2); }
        @Override int gets(int s, int[] has, int y) { return s == 4 ? m : super.gets(s, has, y); }
    }

    static class Abbot extends Bishop {
        Abbot(List<Integer> t, int k, int m) { super(t, k, m); }
        @Override int washes(int x) { at(50); return super.washes(x) * 3; }
        @Override int airs(int x) { at(51); return super.airs(x) ^ k; }
        @Override int gets(int s, int[] has, int y) { return super.gets(s, has, y) + has[s] / 10; }
    }

    static class Duster extends Sweep {
        Duster(List<Integer> t, int k, int m) { super(t, k, m); }
        @Override int wrings(int x) { at(60); return super.wrings(x + 1); }
        @Override int gets(int s, int[] has, int y) { return super.gets(s, has, y) - 1; }
    }

    static class Foundling extends Person {
        Foundling(List<Integer> t, int k, int m) { super(t, k, m); }
        @Override int washes(int x) { at(70); return 9; }
        @Override int wrings(int x) { at(71); return super.wrings(x) + m; }
        @Override int gets(int s, int[] has, int y) { return y % 2 != 0 ? 0 : super.gets(s, has, y); }
    }

    static final class One {
        int kind;
        int m;
        int father = -1;
        int mother = -1;
        int[] has = new int[5];
        int[] owes = new int[8];

        One copy() {
            One c = new One();
            c.kind = kind;
            c.m = m;
            c.father = father;
            c.mother = mother;
            c.has = has.clone();
            c.owes = owes.clone();
            return c;
        }

        int sum() {
            return has[0] + has[1] + has[2] + has[3] + has[4];
        }

        Person as(int k, List<Integer> trace) {
            switch (kind) {
                case 0: return new Person(trace, k, m);
                case 1: return new Bishop(trace, k, m);
                case 2: return new Sweep(trace, k, m);
                case 3: return new Inker(trace, k, m);
                case 4: return new Abbot(trace, k, m);
                case 5: return new Duster(trace, k, m);
                default: return new Foundling(trace, k, m);
            }
        }
    }

    static final class State {
        List<One> people = new ArrayList<>();
        int year;
        int z = 1;
        String tape = "";
        String[] texts = new String[2];
        List<Integer> waiting = new ArrayList<>();

        State copy() {
            State c = new State();
            for (One one : people) {
                c.people.add(one.copy());
            }
            c.year = year;
            c.z = z;
            c.tape = tape;
            c.texts = texts.clone();
            c.waiting = new ArrayList<>(waiting);
            return c;
        }
    }

    /** Works a TEXT out as it reads it; Err where the TEXT does not go on. */
    static final class Sum {
        final String text;
        final String names;
        final int[] values;
        int at;
        int open;

        Sum(String text, int use, int... values) {
            this.text = text;
            this.names = use == 0 ? "wsy" : "vsn";
            this.values = values;
        }

        int whole() {
            int v = t();
            need(at == text.length(), 0);
            return v;
        }

        boolean eat(char c) {
            boolean is = at < text.length() && text.charAt(at) == c;
            at += is ? 1 : 0;
            return is;
        }

        int t() {
            int v = a();
            while (eat('|')) {
                int w = a();
                v = v != 0 || w != 0 ? 1 : 0;
            }
            return v;
        }

        int a() {
            int v = b();
            while (eat('&')) {
                int w = b();
                v = v != 0 && w != 0 ? 1 : 0;
            }
            return v;
        }

        int b() {
            int v = s();
            if (eat('<')) {
                return v < s() ? 1 : 0;
            }
            if (eat('=')) {
                return v == s() ? 1 : 0;
            }
            if (eat('>')) {
                return v > s() ? 1 : 0;
            }
            return v;
        }

        int s() {
            int v = p();
            while (true) {
                if (eat('+')) {
                    v += p();
                } else if (eat('-')) {
                    v -= p();
                } else {
                    return v;
                }
            }
        }

        int p() {
            int v = q();
            while (true) {
                if (eat('*')) {
                    v *= q();
                } else if (eat('/')) {
                    int by = q();
                    v = by == 0 ? 0 : v / by;
                } else if (eat('%')) {
                    int by = q();
                    v = by == 0 ? 0 : v % by;
                } else {
                    return v;
                }
            }
        }

        int q() {
            if (eat('!')) {
                need(++open <= 5, 0);
                int v = q() == 0 ? 1 : 0;
                open--;
                return v;
            }
            if (eat('(')) {
                need(++open <= 5, 0);
                int v = t();
                need(eat(')'), 0);
                open--;
                return v;
            }
            for (int i = 0; i < 3; i++) {
                if (eat(names.charAt(i))) {
                    return values[i];
                }
            }
            String digits = "";
            while (at < text.length() && "0123456789".indexOf(text.charAt(at)) >= 0) {
                digits += text.charAt(at++);
            }
            need(digits.length() >= 1 && digits.length() <= 4, 0);
            return Integer.parseInt(digits);
        }
    }

    static void need(boolean is, int k) {
        if (!is) {
            throw new Err(k);
        }
    }

    static void within(int v, int least, int most) {
        need(v >= least && v <= most, Due.BEYOND);
    }

    static boolean isText(String text, int use) {
        try {
            new Sum(text, use, 0, 0, 0).whole();
            return true;
        } catch (Err e) {
            return false;
        }
    }

    /** A beginning of a TEXT can be ended by a number, if it wants one, and by closing what is open. */
    static boolean begins(String text, int use) {
        String closing = "";
        for (int i = 0; i <= 5; i++) {
            if (isText(text + closing, use) || isText(text + "1" + closing, use)) {
                return true;
            }
            closing += ")";
        }
        return false;
    }

    State now = new State();
    State image;
    int images;
    final int[] told = new int[7];
    final int[][] rows = new int[4][];
    final int[] bits = new int[4];
    List<Integer> trace = new ArrayList<>();

    int call(Answer act) {
        try {
            return act.get();
        } catch (Err e) {
            told[e.k]++;
            return Due.LOW - e.k;
        }
    }

    One one(int p) {
        within(p, 0, now.people.size() - 1);
        return now.people.get(p);
    }

    void two(int p, int q) {
        one(p);
        one(q);
        need(p != q, Due.BEYOND);
    }

    int add(int km) {
        One one = new One();
        one.kind = km / 10;
        one.m = km % 10;
        now.people.add(one);
        return now.people.size() - 1;
    }

    int[] poured(One a, One b) {
        int[] p = new int[5];
        for (int s = 0; s < 5; s++) {
            p[s] = (a.has[s] + b.has[s]) / 2;
        }
        return p;
    }

    int from(int p) {
        One one = now.people.get(p);
        return one.father < 0 ? 0 : 1 << one.father | 1 << one.mother | from(one.father) | from(one.mother);
    }

    int given(int use, int a, int b, int c) {
        int v = now.texts[use] == null ? a : new Sum(now.texts[use], use, a, b, c).whole();
        int least = use == 0 ? -9 : 0;
        int most = use == 0 ? 9 : 999;
        return v < least ? least : v > most ? most : v;
    }

    int worth(int p) {
        int sum = 0;
        for (int s = 0; s < 5; s++) {
            sum += given(1, now.people.get(p).has[s], s, p);
        }
        return sum;
    }

    int gain(int p, int s) {
        One one = now.people.get(p);
        return given(0, one.as(p, new ArrayList<>()).gets(s, one.has, now.year), s, now.year);
    }

    void goBy() {
        for (int p = 0; p < now.people.size(); p++) {
            for (int s = 0; s < 5; s++) {
                int v = now.people.get(p).has[s] + gain(p, s);
                now.people.get(p).has[s] = v < 0 ? 0 : v > 99 ? 99 : v;
            }
        }
        now.year++;
    }

    int draw(int by) {
        now.z = now.z * 1103515245 + 12345;
        return (now.z >>> 8) % by;
    }

    int person(int km) {
        within(km, 0, 69);
        need(now.people.size() < 8, Due.FULL);
        return add(km);
    }

    int child(int km, int f, int m) {
        within(km, 0, 69);
        two(f, m);
        need(now.people.size() < 8, Due.FULL);
        int c = add(km);
        One one = now.people.get(c);
        one.father = f;
        one.mother = m;
        one.has = poured(now.people.get(f), now.people.get(m));
        return c;
    }

    int personIs(int p, int what) {
        One one = one(p);
        within(what, 0, 6);
        return new int[] {one.kind, one.m, one.father, one.mother, one.sum(), worth(p), from(p)}[what];
    }

    int become(int p, int km) {
        One one = one(p);
        within(km, 0, 69);
        int old = one.kind;
        one.kind = km / 10;
        one.m = km % 10;
        return old;
    }

    int as(int p, int kind) {
        One one = one(p);
        within(kind, 0, 6);
        Class<?>[] kinds = {Person.class, Bishop.class, Sweep.class, Inker.class, Abbot.class, Duster.class,
            Foundling.class};
        need(kinds[kind].isInstance(one.as(p, trace)), Due.KIND);
        return one.m;
    }

    int hold(int p, int s) {
        one(p);
        within(s, 0, 4);
        return one(p).has[s];
    }

    int spoon(int p, int s, int v) {
        int old = hold(p, s);
        within(v, 0, 99);
        one(p).has[s] = v;
        return old;
    }

    int gainNow(int p, int s) {
        hold(p, s);
        return gain(p, s);
    }

    void go(One a, One b, int s, int n) {
        need(a.has[s] >= n && b.has[s] + n <= 99, Due.STATE);
        a.has[s] -= n;
        b.has[s] += n;
    }

    int lend(int f, int t, int s, int n) {
        two(f, t);
        within(s, 0, 4);
        within(n, 1, 99);
        need(one(t).owes[f] + n <= 999, Due.STATE);
        go(one(f), one(t), s, n);
        return one(t).owes[f] += n;
    }

    int repay(int f, int t, int s, int n) {
        two(f, t);
        within(s, 0, 4);
        within(n, 1, 99);
        need(one(f).owes[t] >= n, Due.STATE);
        go(one(f), one(t), s, n);
        return one(f).owes[t] -= n;
    }

    int owes(int f, int t) {
        two(f, t);
        return one(f).owes[t];
    }

    int feed(long word, int n) {
        within(n, 1, 8);
        need(now.tape.length() + n <= 60, Due.FULL);
        for (int i = 0; i < n; i++) {
            now.tape += (char) (word >> 8 * i & 255);
        }
        return now.tape.length();
    }

    int text(int use) {
        within(use, 0, 1);
        String tape = now.tape;
        now.tape = "";
        if (isText(tape, use)) {
            now.texts[use] = tape;
            return 1;
        }
        int fault = 0;
        while (fault < tape.length() && begins(tape.substring(0, fault + 1), use)) {
            fault++;
        }
        return -10 - fault;
    }

    int untell(int use) {
        within(use, 0, 1);
        int was = now.texts[use] == null ? 0 : 1;
        now.texts[use] = null;
        return was;
    }

    int law(int use, int a, int b, int c) {
        within(use, 0, 1);
        return given(use, a, b, c);
    }

    int years(int n) {
        within(n, 1, 60);
        need(now.year + n <= 999, Due.STATE);
        for (int i = 0; i < n; i++) {
            goBy();
        }
        return now.year;
    }

    int loose(int n) {
        within(n, 1, 20);
        need(now.year + n <= 999, Due.STATE);
        int stolen = 0;
        for (int i = 0; i < n; i++) {
            if (!now.people.isEmpty()) {
                One a = now.people.get(draw(now.people.size()));
                One b = now.people.get(draw(now.people.size()));
                int s = draw(5);
                int half = a == b ? 0 : Math.min(a.has[s], 99 - b.has[s]) / 2;
                go(a, b, s, half);
                stolen += half;
            }
            goBy();
        }
        return stolen;
    }

    int year(int v) {
        within(v, 0, 999);
        int old = now.year;
        now.year = v;
        return old;
    }

    int seed(int v) {
        int old = now.z;
        now.z = v;
        return old;
    }

    /** Thought is done on a copy, which is thrown away. */
    int thought(Answer act) {
        State real = now;
        now = real.copy();
        try {
            return act.get();
        } finally {
            now = real;
        }
    }

    int then(int p, int s, int n) {
        hold(p, s);
        within(n, 0, 60);
        return thought(() -> {
            for (int i = 0; i < n; i++) {
                goBy();
            }
            return now.people.get(p).has[s];
        });
    }

    int clean(int x, int what) {
        within(x, 0, 500);
        within(what, 0, 1);
        return thought(() -> {
            for (int i = 0; i <= 60; i++) {
                for (int p = 0; p < now.people.size(); p++) {
                    if (now.people.get(p).sum() < x) {
                        return what == 0 ? p : i;
                    }
                }
                goBy();
            }
            throw new Err(Due.NONE);
        });
    }

    int parents(int p, int what) {
        One one = one(p);
        within(what, 0, 2);
        List<int[]> pairs = new ArrayList<>();
        for (int a = 0; a < now.people.size(); a++) {
            for (int b = a + 1; b < now.people.size(); b++) {
                if (a != p && b != p && java.util.Arrays.equals(poured(one(a), one(b)), one.has)) {
                    pairs.add(new int[] {a, b});
                }
            }
        }
        if (what == 0) {
            return pairs.size();
        }
        need(!pairs.isEmpty(), Due.NONE);
        return pairs.get(0)[what - 1];
    }

    int falseSorts(int p) {
        One one = one(p);
        need(one.father >= 0, Due.STATE);
        int set = 0;
        for (int s = 0; s < 5; s++) {
            if (one.has[s] > 0 && one(one.father).has[s] + one(one.mother).has[s] == 0) {
                set += 1 << s;
            }
        }
        return set;
    }

    int kin(int p, int q) {
        two(p, q);
        return (from(p) + (1 << p)) & (from(q) + (1 << q));
    }

    /** The fewest payments by trying: the first who is not at 0 settles with each who is on the other side. */
    static int settle(int[] b, int at) {
        while (at < b.length && b[at] == 0) {
            at++;
        }
        if (at == b.length) {
            return 0;
        }
        int best = 99;
        for (int i = at + 1; i < b.length; i++) {
            if (b[i] != 0 && b[i] < 0 != b[at] < 0) {
                b[i] += b[at];
                best = Math.min(best, 1 + settle(b, at + 1));
                b[i] -= b[at];
            }
        }
        return best;
    }

    int nets(int what) {
        within(what, 0, 1);
        int n = now.people.size();
        int[] b = new int[n];
        for (int p = 0; p < n; p++) {
            for (int q = 0; q < n; q++) {
                b[p] -= one(p).owes[q];
                b[q] += one(p).owes[q];
            }
        }
        int above = 0;
        for (int v : b) {
            above += v > 0 ? v : 0;
        }
        return what == 1 ? above : settle(b, 0);
    }

    int odds(int x, int part) {
        within(x, 0, 500);
        within(part, 0, 1);
        int n = now.people.size();
        need(n >= 2, Due.STATE);
        int above = 0;
        int below = 0;
        for (int a = 0; a < n; a++) {
            for (int b = 0; b < a; b++) {
                int sum = 0;
                for (int v : poured(one(a), one(b))) {
                    sum += v;
                }
                below++;
                above += sum < x ? 1 : 0;
            }
        }
        int d = java.math.BigInteger.valueOf(above).gcd(java.math.BigInteger.valueOf(below)).intValue();
        return (part == 0 ? above : below) / d;
    }

    int fits(int sheet, int what) {
        within(sheet, 0, 3);
        within(what, 0, 1);
        need(rows[sheet] != null && rows[sheet].length <= 5, Due.NONE);
        int many = 0;
        int least = 0;
        for (int set = (1 << now.people.size()) - 1; set > 0; set--) {
            int[] sums = new int[5];
            for (int p = 0; p < now.people.size(); p++) {
                for (int s = 0; s < 5 && (set & 1 << p) != 0; s++) {
                    sums[s] += one(p).has[s];
                }
            }
            int[] told = java.util.Arrays.copyOf(sums, rows[sheet].length);
            if (java.util.Arrays.equals(told, rows[sheet])) {
                many++;
                least = set;
            }
        }
        need(what == 0 || many > 0, Due.NONE);
        return what == 0 ? many : least;
    }

    int voice(int p, int voice, int x) {
        One one = one(p);
        within(voice, 0, 3);
        trace = new ArrayList<>();
        Person who = one.as(p, trace);
        switch (voice) {
            case 0: return who.washes(x);
            case 1: return who.wrings(x);
            case 2: return who.airs(x);
            default: return who.parts(x);
        }
    }

    int body(int i) {
        need(i >= 0 && i < trace.size(), Due.NONE);
        return trace.get(i);
    }

    int sheet(int sheet, int of, int n) {
        within(sheet, 0, 3);
        need(of == 0 || of == 8 || of == 16 || of == 32, Due.BEYOND);
        if (of == 0) {
            rows[sheet] = null;
            return 1;
        }
        need(n >= 0, Due.STATE);
        within(n, 0, 24);
        rows[sheet] = new int[n];
        bits[sheet] = of;
        return 1;
    }

    int put(int sheet, int i, int v) {
        within(sheet, 0, 3);
        need(rows[sheet] != null, Due.NONE);
        within(i, 0, rows[sheet].length - 1);
        int off = 32 - bits[sheet];
        rows[sheet][i] = v << off >> off;
        return 1;
    }

    int move(int sheet, int i, int other, int j, int n) {
        within(sheet, 0, 3);
        within(other, 0, 3);
        need(rows[sheet] != null && rows[other] != null, Due.NONE);
        need(bits[sheet] == bits[other], Due.KIND);
        need(n >= 0 && i >= 0 && j >= 0, Due.BEYOND);
        need((long) i + n <= rows[sheet].length && (long) j + n <= rows[other].length, Due.BEYOND);
        int[] were = rows[sheet].clone();
        for (int a = 0; a < n; a++) {
            rows[other][j + a] = were[i + a];
        }
        return n;
    }

    int spoons(int p, int sheet) {
        One one = one(p);
        within(sheet, 0, 3);
        need(rows[sheet] != null, Due.NONE);
        int i = 0;
        while (i < 5 && i < rows[sheet].length && rows[sheet][i] >= 0 && rows[sheet][i] <= 99) {
            one.has[i] = rows[sheet][i];
            i++;
        }
        return i;
    }

    int judge(int sheet) {
        within(sheet, 0, 3);
        need(rows[sheet] != null, Due.NONE);
        int i = 0;
        while (i < rows[sheet].length && i < now.people.size() && one(i).sum() == rows[sheet][i]) {
            i++;
        }
        return i;
    }

    int image() {
        image = now.copy();
        return ++images;
    }

    int restore() {
        need(image != null, Due.NONE);
        now = image.copy();
        return now.year;
    }

    int tell(int v) {
        need(now.waiting.size() < 24, Due.FULL);
        now.waiting.add(v);
        return now.waiting.size();
    }

    int check() {
        List<Integer> told = now.waiting;
        now.waiting = new ArrayList<>();
        for (int i = 0; i < told.size(); i++) {
            if (i >= now.people.size() || told.get(i) != worth(i)) {
                return 1 + i;
            }
        }
        return 0;
    }

    int count(int what) {
        within(what, 0, 5);
        return new int[] {now.people.size(), now.year, now.tape.length(), now.waiting.size(), trace.size(), now.z}[what];
    }

    int told(int k) {
        within(k, 1, 6);
        return told[k];
    }
}
