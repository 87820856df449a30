/** The last of all there can be: eight PEOPLE, 60 bytes, 24 numbers, the YEAR 999. */
public final class FullTest {
    private static final Due due = new Due("FullTest");
    private static final int LAST = 7;

    public static void main(String[] args) {
        people();
        loans();
        years();
        thoughts();
        sheets();
        tapes();
        due.end();
    }

    private static DirtPress full() {
        DirtPress x = new DirtPress();
        for (int i = 0; i < 6; i++) {
            x.person(i * 10 + i);
            Due.set(x, i, i, i, i, i, i);
        }
        x.child(66, 0, 4);
        x.child(49, 6, 5);
        return x;
    }

    private static void people() {
        DirtPress x = full();
        due.is("count(0)", x.count(0), 8);
        due.is("the last's forebears", x.personIs(LAST, 6), 1 + 16 + 32 + 64);
        due.is("the last's spoons", x.personIs(LAST, 4), 15);
        due.is("the last's worth", x.personIs(LAST, 5), 15);
        due.is("the last's sort 4", x.spoon(LAST, 4, 99), 3);
        due.is("the last's gain", x.gain(LAST, 4), 9);
        due.is("the last as a bishop", x.as(LAST, 1), 9);
        due.is("no ninth", x.hold(8, 0), Due.LOW - Due.BEYOND);
        Due.set(x, 6, 0, 0, 1, 0, 0);
        Due.set(x, 5, 0, 1, 0, 0, 0);
        due.is("the last's false sorts", x.falseSorts(LAST), 1 + 8 + 16);
        due.is("kin of the last", x.kin(LAST, 6), 1 + 16 + 64);
        due.is("kin of the first", x.kin(0, LAST), 1);
    }

    private static void loans() {
        DirtPress x = full();
        x.spoon(LAST, 4, 99);
        due.is("lend by the last", x.lend(LAST, 0, 4, 99), 99);
        due.is("repay to the last of 99", x.repay(0, LAST, 4, 99), 0);
        due.is("lend again", x.lend(LAST, 6, 4, 40), 40);
        due.is("owes the last", x.owes(6, LAST), 40);
        x.image();
        x.repay(6, LAST, 4, 39);
        x.restore();
        due.is("owes the last as in the image", x.owes(6, LAST), 40);
        due.is("nets(0)", x.nets(0), 1);
        due.is("nets(1)", x.nets(1), 40);
    }

    private static void years() {
        DirtPress x = full();
        x.year(939);
        due.is("years(60)", x.years(60), 999);
        due.is("the last grew", x.hold(LAST, 0), 99);
        due.is("the foundling grew", x.hold(6, 1), 2 + 30);
        x.year(979);
        int before = 0;
        for (int p = 0; p < 8; p++) {
            before += x.personIs(p, 4);
        }
        Due.text(x, 0, "0");
        x.loose(20);
        int after = 0;
        for (int p = 0; p < 8; p++) {
            after += x.personIs(p, 4);
        }
        due.is("what is stolen stays among them", after, before);
    }

    private static void thoughts() {
        DirtPress x = full();
        Due.set(x, LAST, 0, 0, 0, 0, 0);
        x.spoon(0, 0, 1);
        due.is("the last is clean", x.clean(1, 0), LAST);
        due.is("the last then", x.then(LAST, 4, 11), 12);
        Due.set(x, LAST, 5, 5, 5, 5, 5);
        Due.set(x, 6, 5, 5, 5, 5, 5);
        due.is("pairs for 5", x.parents(5, 0), 1);
        due.is("the lesser", x.parents(5, 1), 6);
        due.is("the last", x.parents(5, 2), LAST);
        due.is("odds, above", x.odds(500, 0), 1);
        due.is("odds of 28, below", x.odds(2, 1), 28);
        for (int p = 0; p < 8; p++) {
            x.spoon(p, 0, 1 << p);
            x.spoon(p, 4, 0);
        }
        x.spoon(LAST, 0, 99);
        Due.row(x, 0, 16, 99 + 64 + 1);
        due.is("the set with the last", x.fits(0, 1), 128 + 64 + 1);
        Due.row(x, 0, 16, 99 + 127);
        due.is("all", x.fits(0, 1), 255);
        due.is("one set", x.fits(0, 0), 1);
    }

    private static void sheets() {
        DirtPress x = full();
        x.sheet(3, 32, 24);
        for (int p = 0; p < 8; p++) {
            x.put(3, p, x.personIs(p, 4));
        }
        due.is("all eight are right", x.judge(3), 8);
        due.is("the last's spoons", x.spoons(LAST, 3), 5);
        due.is("sort 4 of the last", x.hold(LAST, 4), 20);
        x.put(3, 23, 7);
        due.is("move of 24", x.move(3, 0, 3, 0, 24), 24);
        due.is("move of the last", x.move(3, 23, 3, 0, 1), 1);
        x.spoons(0, 3);
        due.is("that last", x.hold(0, 0), 7);
        for (int p = 0; p < 8; p++) {
            x.tell(x.personIs(p, 5));
        }
        due.is("check of all", x.check(), 0);
        for (int p = 0; p < 8; p++) {
            x.tell(x.personIs(p, 5));
        }
        x.tell(0);
        due.is("check of a ninth", x.check(), 9);
    }

    private static void tapes() {
        String sum = "1+1+1+1+1+1+1+1+1+1+1+1+1+1+1+1+1+1+1+1+1+1+1+1+1+1+1+";
        String[] ends = {"(1+(23", "(1+22+", "(1+234", "10+023", "1+0023", "1+023+", "1+2+!!", "1+2345", "123+y)", "10<7=1"};
        int[] answers = {-70, -70, -70, 1, 1, -70, -70, 1, -69, -68};
        for (int i = 0; i < ends.length; i++) {
            due.is("60 bytes that end by " + ends[i], Due.text(new DirtPress(), 0, sum + ends[i]), answers[i]);
        }
    }
}
