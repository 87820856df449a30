/** Promises 36 to 41; their edges stand in EdgesOfImagesTest. */
public final class ImagesTest {
    private static final Due due = new Due("ImagesTest");

    public static void main(String[] args) {
        images();
        whatIsKept();
        whatIsNot();
        checking();
        counting();
        told();
        due.end();
    }

    private static long some(DirtPress x) {
        x.person(31);
        x.person(42);
        Due.set(x, 0, 10, 20, 30, 40, 50);
        Due.set(x, 1, 11, 21, 31, 41, 51);
        x.child(63, 0, 1);
        x.lend(0, 1, 2, 9);
        Due.text(x, 0, "w+s");
        Due.text(x, 1, "v*2");
        Due.feed(x, "v-1");
        x.tell(7);
        x.tell(8);
        x.year(70);
        x.seed(17);
        Due.row(x, 0, 8, 1, 2, 3);
        return x.voice(1, 2, 3);
    }

    private static long spoil(DirtPress x) {
        x.child(1, 0, 1);
        x.become(0, 69);
        Due.set(x, 0, 0, 0, 0, 0, 0);
        Due.set(x, 1, 99, 99, 99, 0, 99);
        x.lend(1, 0, 0, 20);
        x.repay(1, 0, 1, 3);
        x.untell(0);
        Due.text(x, 1, "9");
        Due.feed(x, "5+5");
        x.check();
        x.tell(3);
        x.loose(4);
        return x.seed(99);
    }

    private static void images() {
        DirtPress x = new DirtPress();
        due.is("image()", x.image(), 1);
        due.is("image() again", x.image(), 2);
        x.year(500);
        due.is("restore()", x.restore(), 0);
        due.is("the year then", x.count(1), 0);
        x.year(600);
        due.is("it stays", x.restore(), 0);
        x.year(700);
        due.is("how often is not restored", x.image(), 3);
        x.year(2);
        due.is("the later one", x.restore(), 700);
    }

    private static void whatIsKept() {
        due.is("all is as it was", Due.all(ImagesTest::some, x -> x.image() + spoil(x) + x.restore()),
            Due.all(ImagesTest::some, x -> x.image()));
        DirtPress y = new DirtPress();
        some(y);
        y.image();
        spoil(y);
        y.restore();
        spoil(y);
        y.restore();
        y.person(1);
        due.is("a new one has no spoons", y.personIs(3, 4), 0);
        due.is("a new one is from none", y.personIs(3, 6), 0);
        due.is("a new one owes none", y.owes(3, 0) + y.owes(0, 3), 0);
        DirtPress z = new DirtPress();
        z.image();
        some(z);
        z.restore();
        due.is("no people are kept, too", z.count(0), 0);
        due.is("no text is kept, too", z.law(0, 4, 4, 4), 4);
        due.is("no second text is kept, too", z.untell(1), 0);
        due.is("an empty tape is kept, too", z.count(2), 0);
        due.is("none that wait", z.count(3), 0);
        due.is("z is kept", z.count(5), 1);
    }

    private static void whatIsNot() {
        DirtPress x = new DirtPress();
        some(x);
        x.image();
        x.put(0, 0, 5);
        x.sheet(1, 8, 2);
        x.voice(0, 0, 1);
        x.person(70);
        x.restore();
        due.is("sheets stay", x.spoons(2, 0), 3);
        due.is("their numbers", x.hold(2, 0), 5);
        due.is("a sheet made since", x.put(1, 1, 1), 1);
        due.is("the trace stays", x.count(4), 1);
        due.is("its body", x.body(0), 10);
        due.is("what told() tells stays", x.told(1), 1);
    }

    private static void checking() {
        DirtPress x = new DirtPress();
        due.is("check of none", x.check(), 0);
        x.person(1);
        x.person(2);
        Due.set(x, 0, 1, 2, 3, 4, 5);
        Due.set(x, 1, 99, 99);
        x.tell(15);
        due.is("one is right", x.check(), 0);
        x.tell(15);
        x.tell(198);
        due.is("all are right", x.check(), 0);
        due.is("none wait", x.count(3), 0);
        due.is("once more", x.check(), 0);
        x.tell(15);
        x.tell(198);
        x.tell(0);
        due.is("nobody", x.check(), 3);
        x.tell(15);
        x.tell(197);
        x.tell(0);
        due.is("the second", x.check(), 2);
        x.tell(14);
        x.tell(197);
        due.is("the first", x.check(), 1);
        due.is("none wait after a wrong one", x.count(3), 0);
        Due.text(x, 1, "v*v+n");
        x.tell(55);
        x.tell(999 * 2 + 3);
        due.is("by a text", x.check(), 0);
        due.is("no error is told", x.told(1) + x.told(2), 0);
    }

    private static void counting() {
        DirtPress x = new DirtPress();
        some(x);
        int[] want = {3, 70, 3, 2, 6, 17};
        for (int i = 0; i < want.length; i++) {
            due.is("count(" + i + ")", x.count(i), want[i]);
        }
        x.seed(-1000000004);
        due.is("count(5) is any number", x.count(5), -1000000004);
        due.is("and no error", x.told(4), 0);
    }

    private static void told() {
        DirtPress x = new DirtPress();
        x.person(11);
        x.person(11);
        x.person(70);
        x.person(71);
        x.restore();
        x.falseSorts(0);
        x.odds(1, 0);
        x.falseSorts(0);
        for (int i = 0; i < 25; i++) {
            x.tell(i);
        }
        x.as(0, 2);
        x.voice(1, 3, 1);
        x.voice(1, 3, 1);
        int[] want = {2, 1, 2, 1, 1, 2};
        for (int k = 1; k <= 6; k++) {
            due.is("told(" + k + ")", x.told(k), want[k - 1]);
        }
        due.is("told(7)", x.told(7), Due.LOW - Due.BEYOND);
        due.is("counted, too", x.told(1), 3);
    }
}
