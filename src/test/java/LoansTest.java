/** Promises 10 to 12; their edges stand in EdgesOfPeopleTest. */
public final class LoansTest {
    private static final Due due = new Due("LoansTest");

    public static void main(String[] args) {
        lending();
        repaying();
        due.end();
    }

    private static long three(DirtPress x) {
        x.person(1);
        x.person(2);
        x.person(3);
        Due.set(x, 0, 50, 99, 7, 0, 0);
        Due.set(x, 1, 10, 0, 99, 0, 0);
        return x.lend(0, 1, 0, 20);
    }

    private static void lending() {
        DirtPress x = new DirtPress();
        due.is("lend(0, 1, 0, 20)", three(x), 20);
        due.is("the lender has", x.hold(0, 0), 30);
        due.is("the other one has", x.hold(1, 0), 30);
        due.is("who was lent to owes", x.owes(1, 0), 20);
        due.is("who lent owes", x.owes(0, 1), 0);
        due.is("of another sort, to what is owed", x.lend(0, 1, 1, 99), 119);
        due.is("to 99", x.hold(1, 1), 99);
        due.is("to 0", x.hold(0, 1), 0);
        due.is("lend back", x.lend(1, 0, 1, 1), 1);
        due.is("both owe", x.owes(1, 0), 119);
    }

    private static void repaying() {
        DirtPress x = new DirtPress();
        three(x);
        due.is("repay(1, 0, 0, 5)", x.repay(1, 0, 0, 5), 15);
        due.is("who repays has", x.hold(1, 0), 25);
        due.is("who is repaid has", x.hold(0, 0), 35);
        due.is("of another sort", x.repay(1, 0, 2, 15), 0);
        due.is("who repays has of that", x.hold(1, 2), 84);
        due.is("who is repaid has of that", x.hold(0, 2), 22);
        due.is("nothing is owed", x.owes(1, 0), 0);
        due.is("nor back", x.owes(0, 1), 0);
    }
}
