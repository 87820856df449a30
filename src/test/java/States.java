/** What stands ahead of a call that is tested. */
final class States {
    static final String SIXTY = "1-1+1-1+1-1+1-1+1-1+1-1+1-1+1-1+1-1+1-1+1-1+1-1+1-1+1-1+7*!0";

    private States() {
    }

    static long nothing(DirtPress x) {
        return 0;
    }

    static long one(DirtPress x) {
        return x.person(1);
    }

    static long two(DirtPress x) {
        x.person(1);
        return x.person(12);
    }

    static long people(DirtPress x, int n) {
        for (int i = 0; i < n; i++) {
            x.person(i * 10 % 70 + i);
        }
        return n;
    }

    static long seven(DirtPress x) {
        return people(x, 7);
    }

    static long eight(DirtPress x) {
        return people(x, 8);
    }

    /** Some of all there can be, and an IMAGE of less, so that whatever a call changes can be seen. */
    static long rich(DirtPress x) {
        x.person(25);
        x.person(17);
        Due.set(x, 0, 9, 1, 0, 99, 3);
        Due.set(x, 1, 4, 2, 0, 99, 0);
        x.lend(0, 1, 0, 2);
        Due.text(x, 0, "w+1");
        x.tell(x.personIs(0, 5));
        x.tell(x.personIs(1, 5));
        Due.feed(x, "v");
        x.year(7);
        x.seed(5);
        x.image();
        x.check();
        x.text(1);
        x.child(44, 1, 0);
        x.person(63);
        Due.set(x, 3, 10, 20, 30, 40, 50);
        x.lend(0, 3, 0, 3);
        x.lend(3, 0, 4, 20);
        Due.text(x, 0, "w+s-y%2");
        Due.text(x, 1, "v*2+n");
        Due.feed(x, "w*s+5");
        for (int p = 0; p < 4; p++) {
            x.tell(x.personIs(p, 5));
        }
        x.year(70);
        x.seed(17);
        Due.row(x, 0, 8, 11, 12, 13, 14, 15);
        Due.row(x, 1, 16, 21, 22, 23, 24, 25, 26, 27);
        Due.row(x, 2, 8, 31, 32, 33);
        return x.voice(2, 2, 3);
    }

    /** The last of all there can be: eight PEOPLE, SPOONS 99, YEAR 999, 999 owed, 60 bytes, 24 numbers. */
    static long full(DirtPress x) {
        people(x, 6);
        owed(x, 0, 1, 999);
        x.child(66, 0, 4);
        x.child(49, 6, 5);
        for (int p = 0; p < 8; p++) {
            Due.set(x, p, 99, 99, 99, 99, 99);
        }
        Due.text(x, 0, SIXTY);
        Due.text(x, 1, SIXTY);
        Due.feed(x, SIXTY);
        for (int i = 0; i < 24; i++) {
            x.tell(35);
        }
        x.year(999);
        for (int sheet = 0; sheet < 4; sheet++) {
            x.sheet(sheet, sheet == 0 ? 8 : 16, 24);
            x.put(sheet, 23, 9);
        }
        x.image();
        return x.voice(7, 3, 1);
    }

    /** One owes another so many by loans of SORT 0. */
    static long owed(DirtPress x, int lender, int borrower, int n) {
        int owed = 0;
        for (int loans = 0; loans < 12 && owed < n; loans++) {
            int more = Math.min(99, n - owed);
            x.spoon(lender, 0, more);
            x.spoon(borrower, 0, 0);
            owed = x.lend(lender, borrower, 0, more);
        }
        return owed;
    }
}
