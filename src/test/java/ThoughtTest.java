/** Promises 21 to 28; their edges stand in EdgesOfThoughtTest. */
public final class ThoughtTest {
    private static final Due due = new Due("ThoughtTest");

    public static void main(String[] args) {
        then();
        clean();
        parents();
        falseSorts();
        kin();
        nets();
        netsBySize();
        odds();
        fits();
        due.end();
    }

    private static long two(DirtPress x) {
        x.person(1);
        x.person(12);
        Due.set(x, 0, 5, 6, 0, 1, 0);
        return Due.set(x, 1, 7, 9, 1, 1, 4);
    }

    private static void then() {
        DirtPress x = new DirtPress();
        two(x);
        x.person(40);
        x.person(51);
        x.person(62);
        x.spoon(3, 0, 3);
        due.is("now", x.then(0, 1, 0), 6);
        due.is("7 on", x.then(0, 1, 7), 13);
        due.is("a bishop 60 on", x.then(1, 0, 60), 99);
        due.is("a bishop 4 on", x.then(1, 0, 4), 15);
        due.is("an abbot 4 on", x.then(2, 0, 4), 12);
        due.is("an abbot 5 on", x.then(2, 0, 5), 16);
        due.is("a duster 2 on", x.then(3, 0, 2), 1);
        due.is("a duster 9 on", x.then(3, 0, 9), 0);
        due.is("a foundling 5 on", x.then(4, 2, 5), 3);
        x.year(999);
        due.is("a foundling 5 on from an odd year", x.then(4, 2, 5), 2);
        Due.text(x, 0, "y>999");
        due.is("beyond 999", x.then(0, 0, 5), 9);
        due.is("the year stays", x.count(1), 999);
        due.is("the spoons stay", x.hold(0, 0), 5);
    }

    private static void clean() {
        DirtPress x = new DirtPress();
        two(x);
        due.is("who now", x.clean(13, 0), 0);
        due.is("behind none", x.clean(13, 1), 0);
        due.is("not less than 12", x.clean(12, 1), Due.LOW - Due.NONE);
        x.become(1, 50);
        Due.set(x, 1, 0, 2, 3, 4, 4);
        due.is("a duster, 13, 11, 9, 8, 8: behind 1", x.clean(12, 1), 1);
        due.is("a duster", x.clean(12, 0), 1);
        due.is("behind 3", x.clean(9, 1), 3);
        due.is("never less than 8", x.clean(8, 1), Due.LOW - Due.NONE);
        Due.text(x, 0, "0-(y>5)");
        Due.set(x, 0, 1, 0, 0, 0, 0);
        Due.set(x, 1, 1, 0, 0, 0, 0);
        due.is("both at once", x.clean(1, 0), 0);
        due.is("behind 7", x.clean(1, 1), 7);
        due.is("the year stays", x.count(1), 0);
        due.is("the spoons stay", x.hold(1, 0), 1);
        Due.text(x, 0, "0-(y=1058)");
        x.year(999);
        due.is("behind just 60, beyond 999", x.clean(1, 1), 60);
    }

    private static long pairs(DirtPress x) {
        for (int i = 0; i < 5; i++) {
            x.person(i);
        }
        Due.set(x, 0, 4, 4, 4, 4, 4);
        Due.set(x, 1, 9, 0, 0, 0, 0);
        Due.set(x, 2, 0, 9, 9, 9, 9);
        Due.set(x, 3, 5, 4, 4, 4, 5);
        return Due.set(x, 4, 4, 5, 4, 4, 4);
    }

    private static void parents() {
        DirtPress x = new DirtPress();
        pairs(x);
        due.is("pairs", x.parents(0, 0), 2);
        due.is("the first's lesser", x.parents(0, 1), 1);
        due.is("the first's other", x.parents(0, 2), 2);
        due.is("pairs of 4", x.parents(4, 0), 0);
        x.spoon(2, 4, 8);
        due.is("of all sorts", x.parents(0, 0), 2);
        x.spoon(2, 4, 7);
        due.is("one sort is off", x.parents(0, 0), 1);
        due.is("then the lesser", x.parents(0, 1), 3);
        due.is("then the other", x.parents(0, 2), 4);
        x.spoon(0, 0, 5);
        due.is("the first sort is off", x.parents(0, 0), 0);
        Due.set(x, 4, 2, 4, 4, 4, 4);
        due.is("a pair with the first", x.parents(4, 0), 0);
        Due.set(x, 4, 5, 4, 4, 4, 4);
        due.is("the first and the fourth", x.parents(4, 0), 1);
        due.is("the first", x.parents(4, 1), 0);
        due.is("the fourth", x.parents(4, 2), 3);
        DirtPress y0 = new DirtPress();
        y0.person(0);
        y0.person(0);
        due.is("one other is no pair", y0.parents(0, 0), 0);
        due.is("nobody is no other", y0.parents(0, 1), Due.LOW - Due.NONE);
        DirtPress z = new DirtPress();
        for (int i = 0; i < 4; i++) {
            z.person(0);
        }
        due.is("oneself is no parent", z.parents(0, 0), 3);
        due.is("the first of others", z.parents(0, 1), 1);
        due.is("the first of others than 1", z.parents(1, 1), 0);
        due.is("with 2", z.parents(1, 2), 2);
    }

    private static long born(DirtPress x) {
        two(x);
        return x.child(3, 1, 0);
    }

    private static void falseSorts() {
        DirtPress x = new DirtPress();
        born(x);
        due.is("at first", x.falseSorts(2), 0);
        Due.set(x, 2, 1, 1, 1, 1, 1);
        Due.set(x, 0, 0, 1, 0, 0, 0);
        Due.set(x, 1, 0, 0, 9, 0, 0);
        due.is("what neither has now", x.falseSorts(2), 1 + 8 + 16);
        x.spoon(2, 3, 0);
        due.is("and one has", x.falseSorts(2), 1 + 16);
    }

    private static void kin() {
        DirtPress x = new DirtPress();
        born(x);
        x.person(4);
        x.child(1, 2, 3);
        x.child(1, 2, 0);
        due.is("child and mother", x.kin(2, 0), 1);
        due.is("mother and child", x.kin(0, 2), 1);
        due.is("strangers", x.kin(2, 3), 0);
        due.is("half siblings", x.kin(4, 5), 1 + 2 + 4);
        due.is("father and grandchild", x.kin(1, 4), 2);
        due.is("child and grandchild", x.kin(4, 2), 7);
    }

    private static DirtPress owing(int... loans) {
        DirtPress x = new DirtPress();
        for (int i = 0; i < 8; i++) {
            x.person(i);
        }
        for (int i = 0; i + 2 < loans.length; i += 3) {
            x.spoon(loans[i + 1], 0, 99);
            x.spoon(loans[i], 0, 0);
            x.lend(loans[i + 1], loans[i], 0, loans[i + 2]);
        }
        return x;
    }

    private static void nets(String what, DirtPress x, int payments, int above) {
        due.is("nets(0) of " + what, x.nets(0), payments);
        due.is("nets(1) of " + what, x.nets(1), above);
    }

    private static void nets() {
        nets("nobody", new DirtPress(), 0, 0);
        nets("no loan", owing(), 0, 0);
        nets("one loan", owing(0, 1, 5), 1, 5);
        nets("a ring", owing(0, 1, 5, 1, 2, 5, 2, 0, 5), 0, 0);
        nets("one loan to the first", owing(1, 0, 5), 1, 5);
        nets("a loan of the last by the first", owing(7, 0, 5, 0, 6, 4), 2, 5);
        nets("a chain", owing(0, 1, 5, 1, 2, 5), 1, 5);
        nets("loans both ways", owing(0, 1, 9, 1, 0, 4), 1, 5);
        nets("two pairs across", owing(0, 1, 3, 0, 3, 2, 2, 3, 5), 3, 10);
        nets("two groups", owing(0, 1, 5, 2, 3, 7), 2, 12);
        nets("two groups by one hub", owing(0, 4, 5, 4, 1, 5, 2, 4, 7, 4, 3, 7), 2, 12);
        nets("three and two", owing(0, 1, 4, 0, 2, 5, 3, 4, 9, 3, 1, 1, 5, 3, 1), 4, 19);
    }

    private static void netsBySize() {
        nets("seven for one", owing(0, 7, 1, 1, 7, 2, 2, 7, 4, 3, 7, 8, 4, 7, 16, 5, 7, 32, 6, 7, 64), 7, 127);
        nets("four pairs by a hub", owing(0, 1, 1, 2, 3, 2, 4, 5, 4, 6, 7, 8, 1, 3, 30, 3, 5, 30, 5, 1, 30), 4, 15);
        nets("groups of three and five",
            owing(0, 1, 10, 0, 2, 20, 3, 4, 1, 3, 5, 3, 3, 6, 7, 3, 7, 15, 0, 4, 9, 4, 0, 9), 6, 56);
    }

    private static void odds() {
        DirtPress x = new DirtPress();
        two(x);
        x.person(0);
        due.is("6 + 7 + 0 + 1 + 2 is not less than 16: above", x.odds(16, 0), 2);
        due.is("below the line", x.odds(16, 1), 3);
        due.is("each sort is cut", x.odds(17, 0), 1);
        due.is("1 by 1", x.odds(17, 1), 1);
        due.is("0 by 1", x.odds(0, 0), 0);
        due.is("0 by 1, below", x.odds(0, 1), 1);
        due.is("2 + 3 + 0 + 0 + 0 is less than 6", x.odds(6, 0), 1);
        due.is("one of three", x.odds(6, 1), 3);
        x.person(0);
        due.is("half of six, above", x.odds(6, 0), 1);
        due.is("half of six, below", x.odds(6, 1), 2);
        due.is("one of six", x.odds(1, 1), 6);
        x.person(0);
        due.is("six of ten, above", x.odds(6, 0), 3);
        due.is("six of ten, below", x.odds(6, 1), 5);
    }

    private static void fits() {
        DirtPress x = new DirtPress();
        two(x);
        x.person(0);
        Due.set(x, 2, 2, 3, 1, 0, 5);
        Due.row(x, 0, 8, 7, 9, 1, 1, 4);
        due.is("one by all sorts", x.fits(0, 0), 1);
        due.is("that one", x.fits(0, 1), 2);
        Due.row(x, 1, 16, 7, 9);
        due.is("two sets by two sorts", x.fits(1, 0), 2);
        due.is("the least", x.fits(1, 1), 2);
        Due.row(x, 1, 16, 14);
        due.is("all by one sort", x.fits(1, 1), 7);
        Due.row(x, 1, 16, 14, 17);
        due.is("the second is off", x.fits(1, 0), 0);
        x.sheet(2, 32, 0);
        due.is("an empty sheet fits any", x.fits(2, 0), 7);
        due.is("the least of any", x.fits(2, 1), 1);
        due.is("the spoons stay", x.hold(1, 0), 7);
        Due.row(x, 3, 8, 0);
        due.is("no set without people", x.fits(3, 0), 0);
    }
}
