/**
 * Families and the dirt that they have by generations in a press: what ../shared/DOC.md promises.
 * The words in capitals in the comments are the document's.
 */
public final class DirtPress {
    // An ERROR is LOW less its number.
    private static final int LOW = -1000000000;
    private static final int BEYOND = 1;
    private static final int NONE = 2;
    private static final int STATE = 3;
    private static final int FULL = 4;
    private static final int UNLIKE = 5;
    private static final int PARTED = 6;

    private static final int MOST_PEOPLE = 8;
    private static final int SETS = 1 << MOST_PEOPLE;
    private static final int SORTS = 5;
    private static final int CELLS = MOST_PEOPLE * SORTS;
    private static final int MOST_SPOONS = 99;
    private static final int MOST_OWED = 999;
    private static final int LAST_YEAR = 999;
    private static final int MOST_YEARS = 60;
    private static final int MOST_LOOSE_YEARS = 20;
    private static final int MOST_TOGETHER = 500;
    private static final int MOST_BYTES = 60;
    private static final int MOST_WAITING = 24;
    private static final int SHEETS = 4;
    private static final int MOST_NUMBERS = 24;
    private static final int MOST_BODIES = 30;
    private static final int NOBODY = -1;

    private static final int BISHOP = 1;
    private static final int SWEEP = 2;
    private static final int INKER = 3;
    private static final int ABBOT = 4;
    private static final int DUSTER = 5;
    private static final int FOUNDLING = 6;
    private static final int KINDS = 7;
    // The KIND above each KIND; -1: none.
    private static final int[] ABOVE = {-1, 0, 0, 0, 1, 2, 0};

    private static final int GAIN = 0;
    private static final int WORTH = 1;
    private static final int NAMES_OF_A_USE = 3;
    private static final char[] NAMES = {'w', 's', 'y', 'v', 's', 'n'};
    private static final int MOST_OPEN = 5;
    private static final int MOST_DIGITS = 4;
    private static final int LOOSEST = 0;
    private static final int COMPARING = 2;
    private static final int TIGHTEST = 4;

    private static final int WASHES = 0;
    private static final int WRINGS = 1;
    private static final int AIRS = 2;
    private static final int PARTS = 3;
    private static final int VOICES = 4;
    private static final int MOST_CALLS_OPEN = 20;
    // The BODY of each KIND (a line) for each VOICE; 0: it has none of its own.
    private static final int[] BODIES = {
        10, 11, 12, 13,
        20, 0, 0, 21,
        0, 30, 0, 0,
        0, 0, 40, 0,
        50, 0, 51, 0,
        0, 60, 0, 0,
        70, 71, 0, 0,
    };

    private final World world;
    private final World kept;
    private int images;
    private final int[] errors;
    private final Sheet[] sheets;
    private final Reader reader;
    private final Thought thought;
    private final Speech latest;

    public DirtPress() {
        world = new World();
        kept = new World();
        errors = new int[PARTED + 1];
        sheets = new Sheet[SHEETS];
        for (int i = 0; i < SHEETS; i++) {
            sheets[i] = new Sheet();
        }
        reader = new Reader();
        thought = new Thought();
        latest = new Speech();
    }

    // ---- people, spoons

    public int person(int km) {
        if (notKm(km)) {
            return error(BEYOND);
        }
        if (world.people >= MOST_PEOPLE) {
            return error(FULL);
        }
        return world.addOrphan(km);
    }

    public int child(int km, int father, int mother) {
        if (notKm(km) || notTwo(father, mother)) {
            return error(BEYOND);
        }
        if (world.people >= MOST_PEOPLE) {
            return error(FULL);
        }
        return world.addChild(km, father, mother);
    }

    public int personIs(int person, int what) {
        if (notOne(person)) {
            return error(BEYOND);
        }
        switch (what) {
            case 0: return world.kindOf(person);
            case 1: return world.numberOf(person);
            case 2: return world.father[person];
            case 3: return world.mother[person];
            case 4: return together(world.spoons, person);
            case 5: return world.worthOf(person);
            case 6: return world.from[person];
            default: return error(BEYOND);
        }
    }

    public int become(int person, int km) {
        if (notOne(person) || notKm(km)) {
            return error(BEYOND);
        }
        int old = world.kindOf(person);
        world.km[person] = km;
        return old;
    }

    public int as(int person, int kind) {
        if (notOne(person) || kind < 0 || kind >= KINDS) {
            return error(BEYOND);
        }
        if (!isUnder(world.kindOf(person), kind)) {
            return error(UNLIKE);
        }
        return world.numberOf(person);
    }

    public int hold(int person, int sort) {
        if (notOne(person) || notSort(sort)) {
            return error(BEYOND);
        }
        return world.spoons[cell(person, sort)];
    }

    public int spoon(int person, int sort, int v) {
        if (notOne(person) || notSort(sort) || notWithin(v, 0, MOST_SPOONS)) {
            return error(BEYOND);
        }
        int old = world.spoons[cell(person, sort)];
        world.spoons[cell(person, sort)] = v;
        return old;
    }

    public int gain(int person, int sort) {
        if (notOne(person) || notSort(sort)) {
            return error(BEYOND);
        }
        return world.gainOf(person, sort, world.spoons[cell(person, sort)], world.year);
    }

    // ---- loans

    public int lend(int from, int to, int sort, int n) {
        if (notTwo(from, to) || notSort(sort) || notWithin(n, 1, MOST_SPOONS)) {
            return error(BEYOND);
        }
        int debt = pair(to, from);
        if (!world.canGo(from, to, sort, n) || world.owed[debt] + n > MOST_OWED) {
            return error(STATE);
        }
        world.go(from, to, sort, n);
        world.owed[debt] += n;
        return world.owed[debt];
    }

    public int repay(int from, int to, int sort, int n) {
        if (notTwo(from, to) || notSort(sort) || notWithin(n, 1, MOST_SPOONS)) {
            return error(BEYOND);
        }
        int debt = pair(from, to);
        if (!world.canGo(from, to, sort, n) || world.owed[debt] < n) {
            return error(STATE);
        }
        world.go(from, to, sort, n);
        world.owed[debt] -= n;
        return world.owed[debt];
    }

    public int owes(int from, int to) {
        if (notTwo(from, to)) {
            return error(BEYOND);
        }
        return world.owed[pair(from, to)];
    }

    // ---- texts

    public int feed(long word, int n) {
        if (notWithin(n, 1, 8)) {
            return error(BEYOND);
        }
        if (world.bytes + n > MOST_BYTES) {
            return error(FULL);
        }
        for (int i = 0; i < n; i++) {
            world.tape[world.bytes + i] = (int) (word >>> (8 * i)) & 255;
        }
        world.bytes += n;
        return world.bytes;
    }

    public int text(int use) {
        if (notUse(use)) {
            return error(BEYOND);
        }
        int fault = reader.faultOf(world, use);
        world.bytes = 0;
        if (fault >= 0) {
            return -10 - fault;
        }
        world.textOf(use).copyFrom(reader.made);
        return 1;
    }

    public int untell(int use) {
        if (notUse(use)) {
            return error(BEYOND);
        }
        Text told = world.textOf(use);
        int was = truth(told.stands());
        told.clear();
        return was;
    }

    public int law(int use, int a, int b, int c) {
        if (notUse(use)) {
            return error(BEYOND);
        }
        return world.given(use, a, b, c);
    }

    // ---- years

    public int years(int n) {
        if (notWithin(n, 1, MOST_YEARS)) {
            return error(BEYOND);
        }
        if (world.year + n > LAST_YEAR) {
            return error(STATE);
        }
        for (int i = 0; i < n; i++) {
            world.goBy();
        }
        return world.year;
    }

    public int loose(int n) {
        if (notWithin(n, 1, MOST_LOOSE_YEARS)) {
            return error(BEYOND);
        }
        if (world.year + n > LAST_YEAR) {
            return error(STATE);
        }
        int stolen = 0;
        for (int i = 0; i < n; i++) {
            stolen += world.steal();
            world.goBy();
        }
        return stolen;
    }

    public int year(int v) {
        if (notWithin(v, 0, LAST_YEAR)) {
            return error(BEYOND);
        }
        int old = world.year;
        world.year = v;
        return old;
    }

    public int seed(int v) {
        int old = world.z;
        world.z = v;
        return old;
    }

    // ---- what is, what would be

    public int then(int person, int sort, int n) {
        if (notOne(person) || notSort(sort) || notWithin(n, 0, MOST_YEARS)) {
            return error(BEYOND);
        }
        return thought.later(world, person, sort, n);
    }

    public int clean(int x, int what) {
        if (notWithin(x, 0, MOST_TOGETHER) || notWithin(what, 0, 1)) {
            return error(BEYOND);
        }
        int first = thought.firstBelow(world, x);
        if (first < 0) {
            return error(NONE);
        }
        return what == 0 ? first % MOST_PEOPLE : first / MOST_PEOPLE;
    }

    public int parents(int person, int what) {
        if (notOne(person) || notWithin(what, 0, 2)) {
            return error(BEYOND);
        }
        if (what == 0) {
            return thought.pairsFor(world, person);
        }
        int first = thought.firstPairFor(world, person);
        if (first < 0) {
            return error(NONE);
        }
        return what == 1 ? first / MOST_PEOPLE : first % MOST_PEOPLE;
    }

    public int falseSorts(int person) {
        if (notOne(person)) {
            return error(BEYOND);
        }
        int father = world.father[person];
        int mother = world.mother[person];
        if (notTwo(father, mother)) {
            return error(STATE);
        }
        int sorts = 0;
        for (int sort = 0; sort < SORTS; sort++) {
            boolean has = world.spoons[cell(person, sort)] > 0;
            if (has && world.spoons[cell(father, sort)] == 0 && world.spoons[cell(mother, sort)] == 0) {
                sorts |= 1 << sort;
            }
        }
        return sorts;
    }

    public int kin(int one, int other) {
        if (notTwo(one, other)) {
            return error(BEYOND);
        }
        return world.withForebears(one) & world.withForebears(other);
    }

    public int nets(int what) {
        if (notWithin(what, 0, 1)) {
            return error(BEYOND);
        }
        if (what == 0) {
            return thought.fewestPayments(world);
        }
        int above = 0;
        for (int i = 0; i < world.people; i++) {
            above += Math.max(0, world.balanceOf(i));
        }
        return above;
    }

    public int odds(int x, int part) {
        if (notWithin(x, 0, MOST_TOGETHER) || notWithin(part, 0, 1)) {
            return error(BEYOND);
        }
        if (world.people < 2) {
            return error(STATE);
        }
        int pairs = world.people * (world.people - 1) / 2;
        int below = thought.pairsBelow(world, x);
        int divisor = commonDivisor(below, pairs);
        return part == 0 ? below / divisor : pairs / divisor;
    }

    public int fits(int sheet, int what) {
        if (notSheet(sheet) || notWithin(what, 0, 1)) {
            return error(BEYOND);
        }
        Sheet heap = sheets[sheet];
        if (heap.missing() || heap.length > SORTS) {
            return error(NONE);
        }
        if (what == 0) {
            return thought.setsThatFit(world, heap);
        }
        int least = thought.leastThatFits(world, heap);
        return least > 0 ? least : error(NONE);
    }

    // ---- voices, sheets, images, what is told

    public int voice(int person, int voice, int x) {
        if (notOne(person) || notWithin(voice, 0, VOICES - 1)) {
            return error(BEYOND);
        }
        int answer = latest.speak(world, person, voice, x);
        // A parted voice is the latest one, too: THE TRACE is by what began in it.
        return latest.parted ? error(PARTED) : answer;
    }

    public int body(int i) {
        if (i < 0 || i >= latest.begun) {
            return error(NONE);
        }
        return latest.bodies[i];
    }

    public int sheet(int sheet, int bits, int n) {
        if (notSheet(sheet) || (bits != 0 && bits != 8 && bits != 16 && bits != 32)) {
            return error(BEYOND);
        }
        if (bits == 0) {
            sheets[sheet].lose();
            return 1;
        }
        if (n < 0) {
            return error(STATE);
        }
        if (n > MOST_NUMBERS) {
            return error(BEYOND);
        }
        sheets[sheet].begin(bits, n);
        return 1;
    }

    public int put(int sheet, int i, int v) {
        if (notSheet(sheet)) {
            return error(BEYOND);
        }
        Sheet row = sheets[sheet];
        if (row.missing()) {
            return error(NONE);
        }
        if (i < 0 || i >= row.length) {
            return error(BEYOND);
        }
        row.write(i, v);
        return 1;
    }

    public int move(int sheet, int i, int other, int j, int n) {
        if (notSheet(sheet) || notSheet(other)) {
            return error(BEYOND);
        }
        Sheet source = sheets[sheet];
        Sheet goal = sheets[other];
        if (source.missing() || goal.missing()) {
            return error(NONE);
        }
        if (source.bits != goal.bits) {
            return error(UNLIKE);
        }
        if (n < 0 || source.lacks(i, n) || goal.lacks(j, n)) {
            return error(BEYOND);
        }
        System.arraycopy(source.numbers, i, goal.numbers, j, n);
        return n;
    }

    public int spoons(int person, int sheet) {
        if (notOne(person) || notSheet(sheet)) {
            return error(BEYOND);
        }
        Sheet row = sheets[sheet];
        if (row.missing()) {
            return error(NONE);
        }
        int most = Math.min(row.length, SORTS);
        for (int i = 0; i < most; i++) {
            if (notWithin(row.numbers[i], 0, MOST_SPOONS)) {
                return i;
            }
            world.spoons[cell(person, i)] = row.numbers[i];
        }
        return most;
    }

    public int judge(int sheet) {
        if (notSheet(sheet)) {
            return error(BEYOND);
        }
        Sheet row = sheets[sheet];
        if (row.missing()) {
            return error(NONE);
        }
        int most = Math.min(row.length, world.people);
        for (int i = 0; i < most; i++) {
            if (row.numbers[i] != together(world.spoons, i)) {
                return i;
            }
        }
        return most;
    }

    public int image() {
        kept.copyFrom(world);
        images++;
        return images;
    }

    public int restore() {
        if (images == 0) {
            return error(NONE);
        }
        world.copyFrom(kept);
        return world.year;
    }

    public int tell(int v) {
        if (world.waits >= MOST_WAITING) {
            return error(FULL);
        }
        world.waiting[world.waits] = v;
        world.waits++;
        return world.waits;
    }

    public int check() {
        int told = world.waits;
        world.waits = 0;
        for (int i = 0; i < told; i++) {
            if (i >= world.people || world.waiting[i] != world.worthOf(i)) {
                return 1 + i;
            }
        }
        return 0;
    }

    public int count(int what) {
        switch (what) {
            case 0: return world.people;
            case 1: return world.year;
            case 2: return world.bytes;
            case 3: return world.waits;
            case 4: return latest.begun;
            case 5: return world.z;
            default: return error(BEYOND);
        }
    }

    public int told(int k) {
        if (k < BEYOND || k > PARTED) {
            return error(BEYOND);
        }
        return errors[k];
    }

    // ---- what the calls above share

    private int error(int number) {
        if (number >= 0 && number < errors.length) {
            errors[number]++;
        }
        return LOW - number;
    }

    private boolean notOne(int person) {
        return person < 0 || person >= world.people;
    }

    private boolean notTwo(int one, int other) {
        return notOne(one) || notOne(other) || one == other;
    }

    private static boolean notKm(int km) {
        return notWithin(km, 0, KINDS * 10 - 1);
    }

    private static boolean notSort(int sort) {
        return notWithin(sort, 0, SORTS - 1);
    }

    private static boolean notUse(int use) {
        return use != GAIN && use != WORTH;
    }

    private static boolean notSheet(int sheet) {
        return notWithin(sheet, 0, SHEETS - 1);
    }

    private static boolean notWithin(int v, int least, int most) {
        return v < least || v > most;
    }

    private static int held(int v, int least, int most) {
        return Math.max(least, Math.min(most, v));
    }

    private static int truth(boolean is) {
        return is ? 1 : 0;
    }

    private static int cell(int person, int sort) {
        return person * SORTS + sort;
    }

    private static int pair(int from, int to) {
        return from * MOST_PEOPLE + to;
    }

    private static int together(int[] cells, int person) {
        int sum = 0;
        for (int sort = 0; sort < SORTS; sort++) {
            sum += cells[cell(person, sort)];
        }
        return sum;
    }

    private static boolean isUnder(int kind, int upper) {
        int at = kind;
        for (int i = 0; i < KINDS && at >= 0; i++) {
            if (at == upper) {
                return true;
            }
            at = ABOVE[at];
        }
        return false;
    }

    private static int commonDivisor(int above, int below) {
        for (int d = below; d > 1; d--) {
            if (above % d == 0 && below % d == 0) {
                return d;
            }
        }
        return 1;
    }

    /**
     * All that an IMAGE keeps. Rows stay 0 beyond those PEOPLE that there are, as copyFrom takes rows whole.
     */
    private static final class World {
        int people;
        final int[] km = new int[MOST_PEOPLE];
        final int[] father = new int[MOST_PEOPLE];
        final int[] mother = new int[MOST_PEOPLE];
        final int[] from = new int[MOST_PEOPLE];
        final int[] spoons = new int[CELLS];
        final int[] owed = new int[MOST_PEOPLE * MOST_PEOPLE];
        int year;
        int z = 1;
        final int[] tape = new int[MOST_BYTES];
        int bytes;
        final Text gainText = new Text();
        final Text worthText = new Text();
        final int[] waiting = new int[MOST_WAITING];
        int waits;

        void copyFrom(World other) {
            people = other.people;
            System.arraycopy(other.km, 0, km, 0, MOST_PEOPLE);
            System.arraycopy(other.father, 0, father, 0, MOST_PEOPLE);
            System.arraycopy(other.mother, 0, mother, 0, MOST_PEOPLE);
            System.arraycopy(other.from, 0, from, 0, MOST_PEOPLE);
            System.arraycopy(other.spoons, 0, spoons, 0, CELLS);
            System.arraycopy(other.owed, 0, owed, 0, MOST_PEOPLE * MOST_PEOPLE);
            year = other.year;
            z = other.z;
            System.arraycopy(other.tape, 0, tape, 0, MOST_BYTES);
            bytes = other.bytes;
            gainText.copyFrom(other.gainText);
            worthText.copyFrom(other.worthText);
            System.arraycopy(other.waiting, 0, waiting, 0, MOST_WAITING);
            waits = other.waits;
        }

        int kindOf(int person) {
            return km[person] / 10;
        }

        int numberOf(int person) {
            return km[person] % 10;
        }

        int addOrphan(int of) {
            int one = people;
            km[one] = of;
            father[one] = NOBODY;
            mother[one] = NOBODY;
            people++;
            return one;
        }

        int addChild(int of, int itsFather, int itsMother) {
            int one = addOrphan(of);
            father[one] = itsFather;
            mother[one] = itsMother;
            // Parents never change, so whom one is FROM is known at birth.
            from[one] = withForebears(itsFather) | withForebears(itsMother);
            for (int sort = 0; sort < SORTS; sort++) {
                spoons[cell(one, sort)] = poured(itsFather, itsMother, sort);
            }
            return one;
        }

        int withForebears(int person) {
            return from[person] | 1 << person;
        }

        int poured(int one, int other, int sort) {
            return (spoons[cell(one, sort)] + spoons[cell(other, sort)]) / 2;
        }

        int pouredTogether(int one, int other) {
            int sum = 0;
            for (int sort = 0; sort < SORTS; sort++) {
                sum += poured(one, other, sort);
            }
            return sum;
        }

        boolean canGo(int giver, int taker, int sort, int n) {
            return spoons[cell(giver, sort)] >= n && spoons[cell(taker, sort)] + n <= MOST_SPOONS;
        }

        void go(int giver, int taker, int sort, int n) {
            spoons[cell(giver, sort)] -= n;
            spoons[cell(taker, sort)] += n;
        }

        int balanceOf(int person) {
            int balance = 0;
            for (int other = 0; other < people; other++) {
                balance += owed[pair(other, person)] - owed[pair(person, other)];
            }
            return balance;
        }

        int gets(int person, int sort, int has, int now) {
            int m = numberOf(person);
            int plain = m % SORTS == sort ? 1 : 0;
            int bishops = sort == 0 ? plain + 2 : plain;
            switch (kindOf(person)) {
                case BISHOP: return bishops;
                case SWEEP: return 3 * plain;
                case INKER: return sort == 4 ? m : plain;
                case ABBOT: return bishops + has / 10;
                case DUSTER: return 3 * plain - 1;
                case FOUNDLING: return now % 2 == 0 ? plain : 0;
                default: return plain;
            }
        }

        // What one has and the YEAR are told, as both may be only thought.
        int gainOf(int person, int sort, int has, int now) {
            return given(GAIN, gets(person, sort, has, now), sort, now);
        }

        /** A YEAR's GAIN for all, in rows that may be only thought. */
        void grow(int[] cells, int now) {
            for (int person = 0; person < people; person++) {
                for (int sort = 0; sort < SORTS; sort++) {
                    int at = cell(person, sort);
                    int more = gainOf(person, sort, cells[at], now);
                    cells[at] = held(cells[at] + more, 0, MOST_SPOONS);
                }
            }
        }

        void goBy() {
            grow(spoons, year);
            year++;
        }

        int draw() {
            z = z * 1103515245 + 12345;
            return z >>> 8;
        }

        int steal() {
            if (people == 0) {
                return 0;
            }
            int loser = draw() % people;
            int thief = draw() % people;
            int sort = draw() % SORTS;
            if (loser == thief) {
                return 0;
            }
            int room = MOST_SPOONS - spoons[cell(thief, sort)];
            int stolen = Math.min(spoons[cell(loser, sort)], room) / 2;
            go(loser, thief, sort, stolen);
            return stolen;
        }

        Text textOf(int use) {
            return use == GAIN ? gainText : worthText;
        }

        int given(int use, int a, int b, int c) {
            Text told = textOf(use);
            int v = told.stands() ? told.value(a, b, c) : a;
            return use == GAIN ? held(v, -9, 9) : held(v, 0, 999);
        }

        int worthOf(int person) {
            int sum = 0;
            for (int sort = 0; sort < SORTS; sort++) {
                sum += given(WORTH, spoons[cell(person, sort)], sort, person);
            }
            return sum;
        }
    }

    /**
     * A TEXT, its parts behind what they work on: a number is itself, the NAMES are -1, -2, -3,
     * and a sign is its character below 0. Empty: there is none.
     */
    private static final class Text {
        private final int[] parts = new int[MOST_BYTES];
        private final int[] stack = new int[MOST_BYTES];
        private int size;

        boolean stands() {
            return size > 0;
        }

        void clear() {
            size = 0;
        }

        void add(int part) {
            if (size < parts.length) {
                parts[size] = part;
                size++;
            }
        }

        void copyFrom(Text other) {
            System.arraycopy(other.parts, 0, parts, 0, MOST_BYTES);
            size = other.size;
        }

        int value(int a, int b, int c) {
            int top = 0;
            for (int i = 0; i < size; i++) {
                int part = parts[i];
                if (part >= -NAMES_OF_A_USE) {
                    if (top >= stack.length) {
                        return 0;
                    }
                    stack[top] = part >= 0 ? part : named(part, a, b, c);
                    top++;
                } else if (part == -'!') {
                    if (top < 1) {
                        return 0;
                    }
                    stack[top - 1] = truth(stack[top - 1] == 0);
                } else {
                    if (top < 2) {
                        return 0;
                    }
                    top--;
                    stack[top - 1] = joined(-part, stack[top - 1], stack[top]);
                }
            }
            return top > 0 ? stack[0] : 0;
        }

        private static int named(int part, int a, int b, int c) {
            if (part == -1) {
                return a;
            }
            return part == -2 ? b : c;
        }

        private static int joined(int sign, int left, int right) {
            switch (sign) {
                case '|': return left != 0 || right != 0 ? 1 : 0;
                case '&': return left != 0 && right != 0 ? 1 : 0;
                case '<': return left < right ? 1 : 0;
                case '=': return left == right ? 1 : 0;
                case '>': return left > right ? 1 : 0;
                case '+': return left + right;
                case '-': return left - right;
                case '*': return left * right;
                case '/': return right == 0 ? 0 : left / right;
                case '%': return right == 0 ? 0 : left % right;
                default: return 0;
            }
        }
    }

    /**
     * Reads THE TAPE into a TEXT of its own, so that a FAULT leaves the one ahead.
     */
    private static final class Reader {
        final Text made = new Text();
        private final int[] tape = new int[MOST_BYTES];
        private int bytes;
        private int place;
        private int use;
        private boolean failed;

        /** The FAULT; -1: there is none, and the TEXT is made. */
        int faultOf(World world, int ofUse) {
            System.arraycopy(world.tape, 0, tape, 0, MOST_BYTES);
            bytes = world.bytes;
            use = ofUse;
            place = 0;
            failed = false;
            made.clear();
            readChain(LOOSEST, 0);
            return failed || place < bytes ? place : -1;
        }

        /** T, A, B, S, P by their levels: parts of the next level, joined by the signs of this one. */
        private void readChain(int level, int open) {
            if (level > TIGHTEST) {
                readUnit(open);
                return;
            }
            readChain(level + 1, open);
            while (!failed && place < bytes && levelOf(tape[place]) == level) {
                int sign = tape[place];
                place++;
                readChain(level + 1, open);
                made.add(-sign);
                if (level == COMPARING) {
                    return;
                }
            }
        }

        /** Q. */
        private void readUnit(int open) {
            int sign = place < bytes ? tape[place] : -1;
            int name = nameOf(sign);
            if (isDigit(sign)) {
                readNumber();
            } else if (name > 0) {
                place++;
                made.add(-name);
            } else if (sign == '!' && open < MOST_OPEN) {
                place++;
                readUnit(open + 1);
                made.add(-sign);
            } else if (sign == '(' && open < MOST_OPEN) {
                place++;
                readChain(LOOSEST, open + 1);
                readClosing();
            } else {
                failed = true;
            }
        }

        private void readNumber() {
            int v = 0;
            for (int i = 0; i < MOST_DIGITS && place < bytes && isDigit(tape[place]); i++) {
                v = v * 10 + tape[place] - '0';
                place++;
            }
            made.add(v);
        }

        private void readClosing() {
            if (failed || place >= bytes || tape[place] != ')') {
                failed = true;
                return;
            }
            place++;
        }

        private int nameOf(int sign) {
            for (int i = 0; i < NAMES_OF_A_USE; i++) {
                if (NAMES[use * NAMES_OF_A_USE + i] == sign) {
                    return i + 1;
                }
            }
            return 0;
        }

        private static boolean isDigit(int sign) {
            return sign >= '0' && sign <= '9';
        }

        private static int levelOf(int sign) {
            switch (sign) {
                case '|': return LOOSEST;
                case '&': return 1;
                case '<':
                case '=':
                case '>': return COMPARING;
                case '+':
                case '-': return 3;
                case '*':
                case '/':
                case '%': return TIGHTEST;
                default: return -1;
            }
        }
    }

    /**
     * What is only thought; its rows are made once, as no call may make many.
     */
    private static final class Thought {
        private final int[] cells = new int[CELLS];
        private final int[] sums = new int[SETS];
        private final int[] groups = new int[SETS];

        int later(World world, int person, int sort, int n) {
            int has = world.spoons[cell(person, sort)];
            for (int i = 0; i < n; i++) {
                int more = world.gainOf(person, sort, has, world.year + i);
                has = held(has + more, 0, MOST_SPOONS);
            }
            return has;
        }

        /** CLEAN: YEARS by MOST_PEOPLE, and who; -1: nobody by then. */
        int firstBelow(World world, int x) {
            System.arraycopy(world.spoons, 0, cells, 0, CELLS);
            for (int i = 0; i <= MOST_YEARS; i++) {
                if (i > 0) {
                    world.grow(cells, world.year + i - 1);
                }
                for (int person = 0; person < world.people; person++) {
                    if (together(cells, person) < x) {
                        return i * MOST_PEOPLE + person;
                    }
                }
            }
            return -1;
        }

        private boolean couldBear(World world, int one, int other, int person) {
            if (one == person || other == person) {
                return false;
            }
            for (int sort = 0; sort < SORTS; sort++) {
                if (world.poured(one, other, sort) != world.spoons[cell(person, sort)]) {
                    return false;
                }
            }
            return true;
        }

        int pairsFor(World world, int person) {
            int pairs = 0;
            for (int one = 0; one < world.people; one++) {
                for (int other = one + 1; other < world.people; other++) {
                    pairs += truth(couldBear(world, one, other, person));
                }
            }
            return pairs;
        }

        /** The lesser one by MOST_PEOPLE, and the other one; -1: there is no pair. */
        int firstPairFor(World world, int person) {
            for (int one = 0; one < world.people; one++) {
                for (int other = one + 1; other < world.people; other++) {
                    if (couldBear(world, one, other, person)) {
                        return pair(one, other);
                    }
                }
            }
            return -1;
        }

        int pairsBelow(World world, int x) {
            int pairs = 0;
            for (int one = 0; one < world.people; one++) {
                for (int other = one + 1; other < world.people; other++) {
                    pairs += truth(world.pouredTogether(one, other) < x);
                }
            }
            return pairs;
        }

        // A group whose BALANCES are 0 together is done by one payment less than it has people,
        // so the most groups give the fewest payments. Nobody is set 0, which stays 0 in both rows.
        int fewestPayments(World world) {
            for (int person = 0; person < world.people; person++) {
                int balance = world.balanceOf(person);
                for (int set = 0; set < 1 << person; set++) {
                    sums[set | 1 << person] = sums[set] + balance;
                }
            }
            int sets = 1 << world.people;
            for (int set = 1; set < sets; set++) {
                int most = 0;
                for (int person = 0; person < world.people; person++) {
                    if ((set >> person & 1) == 1) {
                        most = Math.max(most, groups[set ^ 1 << person]);
                    }
                }
                groups[set] = most + truth(sums[set] == 0);
            }
            return world.people - groups[sets - 1];
        }

        private boolean fitsSet(World world, Sheet heap, int set) {
            for (int sort = 0; sort < heap.length && sort < SORTS; sort++) {
                int sum = 0;
                for (int person = 0; person < world.people; person++) {
                    if ((set >> person & 1) == 1) {
                        sum += world.spoons[cell(person, sort)];
                    }
                }
                if (sum != heap.numbers[sort]) {
                    return false;
                }
            }
            return true;
        }

        int setsThatFit(World world, Sheet heap) {
            int many = 0;
            for (int set = 1; set < 1 << world.people; set++) {
                many += truth(fitsSet(world, heap, set));
            }
            return many;
        }

        /** 0: no set fits. */
        int leastThatFits(World world, Sheet heap) {
            for (int set = 1; set < 1 << world.people; set++) {
                if (fitsSet(world, heap, set)) {
                    return set;
                }
            }
            return 0;
        }
    }

    /**
     * A SHEET; its numbers have a sign, as numbers of 8, 16, 32 bits have it in Java.
     */
    private static final class Sheet {
        final int[] numbers = new int[MOST_NUMBERS];
        int bits;
        int length;

        boolean missing() {
            return bits == 0;
        }

        void lose() {
            begin(0, 0);
        }

        void begin(int ofBits, int n) {
            bits = ofBits;
            length = n;
            for (int i = 0; i < MOST_NUMBERS; i++) {
                numbers[i] = 0;
            }
        }

        void write(int i, int v) {
            if (bits == 8) {
                numbers[i] = (byte) v;
            } else if (bits == 16) {
                numbers[i] = (short) v;
            } else {
                numbers[i] = v;
            }
        }

        // Asked by a difference, as a sum could wrap; n is not below 0.
        boolean lacks(int i, int n) {
            return i < 0 || n > length || i > length - n;
        }
    }

    /**
     * The latest voice() and THE TRACE of it.
     */
    private static final class Speech {
        final int[] bodies = new int[MOST_BODIES];
        int begun;
        boolean parted;
        private int k;
        private int m;
        private int own;

        int speak(World world, int person, int voice, int x) {
            k = person;
            m = world.numberOf(person);
            own = world.kindOf(person);
            begun = 0;
            parted = false;
            return say(voice, own, x, 0);
        }

        /** A VOICE by the BODY of a KIND, or of the next KIND above that has one. */
        private int say(int voice, int kind, int x, int depth) {
            // PARTED is all that voice() answers, so behind it nothing more begins.
            if (parted) {
                return 0;
            }
            int owner = kind;
            for (int i = 0; i < KINDS && owner >= 0 && BODIES[owner * VOICES + voice] == 0; i++) {
                owner = ABOVE[owner];
            }
            if (owner < 0 || depth >= MOST_CALLS_OPEN) {
                return 0;
            }
            int body = BODIES[owner * VOICES + voice];
            begin(body);
            return worked(body, ABOVE[owner], x, depth + 1);
        }

        private void begin(int body) {
            if (begun < MOST_BODIES) {
                bodies[begun] = body;
                begun++;
            }
        }

        private int worked(int body, int above, int x, int depth) {
            switch (body) {
                case 10: return x + k;
                case 11: return say(WASHES, own, x, depth) * 2;
                case 12: return say(WRINGS, own, x, depth) - m;
                case 13: return divided(x, m - k);
                case 20: return say(WASHES, above, x, depth) - 4;
                case 21: return say(PARTS, above, x, depth) + say(WRINGS, own, 1, depth);
                case 30: return 0 - say(WRINGS, above, x, depth);
                case 40: return say(AIRS, above, x / 2, depth);
                case 50: return say(WASHES, above, x, depth) * 3;
                case 51: return say(AIRS, above, x, depth) ^ k;
                case 60: return say(WRINGS, above, x + 1, depth);
                case 70: return 9;
                case 71: return say(WRINGS, above, x, depth) + m;
                default: return 0;
            }
        }

        private int divided(int x, int by) {
            if (by == 0) {
                parted = true;
                return 0;
            }
            return x / by;
        }
    }
}
