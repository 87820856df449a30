/** Promises 10 to 12. */
public final class LoansTest {
    private static final Due due = new Due("LoansTest");

    public static void main(String[] args) {
        lending();
        repaying();
        wrongLoans();
        statesOfLending();
        statesOfRepaying();
        mostOwed();
        due.end();
    }

    private static long three(DirtPress x) {
        x.person(1);
        x.person(2);
        x.person(3);
        Due.set(x, 0, 50, 99, 7, 0, 0);
        Due.set(x, 1, 10, 0, 99, 0, 0);
        return x.lend(0, 1, 0, 20);
    }

    private static void lending() {
        DirtPress x = new DirtPress();
        due.is("lend(0, 1, 0, 20)", three(x), 20);
        due.is("the lender has", x.hold(0, 0), 30);
        due.is("the other one has", x.hold(1, 0), 30);
        due.is("who was lent to owes", x.owes(1, 0), 20);
        due.is("who lent owes", x.owes(0, 1), 0);
        due.is("of another sort, to what is owed", x.lend(0, 1, 1, 99), 119);
        due.is("to 99", x.hold(1, 1), 99);
        due.is("to 0", x.hold(0, 1), 0);
        due.is("lend back", x.lend(1, 0, 1, 1), 1);
        due.is("both owe", x.owes(1, 0), 119);
    }

    private static void repaying() {
        DirtPress x = new DirtPress();
        three(x);
        due.is("repay(1, 0, 0, 5)", x.repay(1, 0, 0, 5), 15);
        due.is("who repays has", x.hold(1, 0), 25);
        due.is("who is repaid has", x.hold(0, 0), 35);
        due.is("of another sort", x.repay(1, 0, 2, 15), 0);
        due.is("who repays has of that", x.hold(1, 2), 84);
        due.is("who is repaid has of that", x.hold(0, 2), 22);
        due.is("nothing is owed", x.owes(1, 0), 0);
        due.is("nor back", x.owes(0, 1), 0);
    }

    private static void wrongLoans() {
        int[][] wrong = {
            {0, 0, 0, 1}, {1, 1, 0, 1}, {3, 0, 0, 1}, {-1, 0, 0, 1}, {1, 3, 0, 1}, {1, -1, 0, 1},
            {1, 0, 5, 1}, {1, 0, -1, 1}, {1, 0, 0, 0}, {1, 0, 0, -1}, {1, 0, 0, 100}, {2, 0, 3, 100},
        };
        for (int[] w : wrong) {
            due.error("lend", LoansTest::three, x -> x.lend(w[0], w[1], w[2], w[3]), Due.BEYOND);
            due.error("repay", LoansTest::three, x -> x.repay(w[0], w[1], w[2], w[3]), Due.BEYOND);
        }
        int[][] pairs = {{0, 0}, {2, 2}, {3, 0}, {-1, 0}, {0, 3}, {0, -1}};
        for (int[] p : pairs) {
            due.error("owes", LoansTest::three, x -> x.owes(p[0], p[1]), Due.BEYOND);
        }
    }

    private static void statesOfLending() {
        due.error("lend of what is not there", LoansTest::three, x -> x.lend(0, 2, 0, 31), Due.STATE);
        due.error("lend to above 99", LoansTest::three, x -> x.lend(0, 1, 2, 1), Due.STATE);
        DirtPress x = new DirtPress();
        three(x);
        due.is("lend of all", x.lend(0, 2, 0, 30), 30);
    }

    private static long deep(DirtPress x) {
        three(x);
        x.spoon(1, 0, 9);
        x.spoon(1, 1, 60);
        x.spoon(1, 2, 60);
        return x.spoon(0, 2, 95);
    }

    private static void statesOfRepaying() {
        due.error("repay of more than is owed", LoansTest::deep, x -> x.repay(1, 0, 3, 21), Due.STATE);
        due.error("repay of more than one has", LoansTest::deep, x -> x.repay(1, 0, 0, 10), Due.STATE);
        due.error("repay to above 99", LoansTest::deep, x -> x.repay(1, 0, 2, 5), Due.STATE);
        due.error("repay by who lent", LoansTest::deep, x -> x.repay(0, 1, 2, 1), Due.STATE);
        DirtPress x = new DirtPress();
        deep(x);
        due.is("repay to 99", x.repay(1, 0, 2, 4), 16);
        x.spoon(0, 1, 0);
        due.is("repay of all that is owed", x.repay(1, 0, 1, 16), 0);
    }

    private static long owing999(DirtPress x) {
        three(x);
        for (int i = 0; i < 9; i++) {
            x.spoon(0, 1, 99);
            x.spoon(1, 1, 0);
            x.lend(0, 1, 1, 99);
        }
        x.spoon(0, 1, 99);
        x.spoon(1, 1, 0);
        return x.lend(0, 1, 1, 88);
    }

    private static void mostOwed() {
        due.is("owed at most", owing999(new DirtPress()), 999);
        due.error("owed above 999", LoansTest::owing999, x -> x.lend(0, 1, 1, 1), Due.STATE);
    }
}
