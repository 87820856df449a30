/** Promises 31 to 35; their edges stand in EdgesOfSheetsTest. */
public final class SheetsTest {
    private static final Due due = new Due("SheetsTest");

    public static void main(String[] args) {
        sheets();
        puts();
        lowestBits();
        moves();
        spoons();
        judges();
        due.end();
    }

    private static long rows(DirtPress x) {
        x.person(1);
        x.person(2);
        Due.set(x, 0, 1, 2, 3, 4, 5);
        Due.row(x, 0, 8, 11, 12, 13, 14, 15);
        Due.row(x, 1, 16, 21, 22, 23);
        return Due.row(x, 2, 8, 31, 32, 33);
    }

    /** The numbers of a SHEET from the first on, as somebody's SPOONS take them. */
    private static void numbers(String what, DirtPress x, int sheet, int... want) {
        int one = 0;
        Due.set(x, one, 77, 77, 77, 77, 77);
        due.is(what + ": how many", x.spoons(one, sheet), want.length);
        for (int i = 0; i < want.length; i++) {
            due.is(what + ": number " + i, x.hold(one, i), want[i]);
        }
    }

    private static void sheets() {
        DirtPress x = new DirtPress();
        rows(x);
        numbers("as put", x, 0, 11, 12, 13, 14, 15);
        due.is("made anew", x.sheet(0, 32, 3), 1);
        numbers("all 0", x, 0, 0, 0, 0);
        due.is("sheet(0, 0, -5)", x.sheet(0, 0, -5), 1);
        due.is("missing", x.put(0, 0, 1), Due.LOW - Due.NONE);
        due.is("sheet(0, 0, 99) again", x.sheet(0, 0, 99), 1);
        due.is("24 numbers", x.sheet(3, 8, 24), 1);
        due.is("the last", x.put(3, 23, 1), 1);
        due.is("no numbers", x.sheet(3, 16, 0), 1);
        due.is("no first", x.put(3, 0, 1), Due.LOW - Due.BEYOND);
        due.is("is not missing", x.judge(3), 0);
    }

    private static void puts() {
        DirtPress x = new DirtPress();
        rows(x);
        due.is("put(0, 4, 99)", x.put(0, 4, 99), 1);
        numbers("after a put", x, 0, 11, 12, 13, 14, 99);
    }

    private static void lowestBits() {
        DirtPress x = new DirtPress();
        rows(x);
        x.put(0, 0, 256 + 9);
        x.put(0, 1, -256);
        x.put(0, 2, 128);
        numbers("8 bits", x, 0, 9, 0);
        x.put(1, 0, 65536 + 9);
        x.put(1, 1, 256 + 9);
        numbers("16 bits", x, 1, 9);
        Due.row(x, 3, 32, 65536 + 9);
        numbers("32 bits", x, 3);
        Due.set(x, 0, 99, 90, 11, 0, 0);
        Due.row(x, 3, 8, 200);
        due.is("8 bits have a sign", x.judge(3), 0);
        Due.row(x, 3, 16, 200);
        due.is("200 of 16 bits", x.judge(3), 1);
    }

    private static void moves() {
        DirtPress x = new DirtPress();
        rows(x);
        due.is("move to another", x.move(0, 1, 2, 0, 2), 2);
        numbers("moved to", x, 2, 12, 13, 33);
        numbers("moved from", x, 0, 11, 12, 13, 14, 15);
        due.is("move up", x.move(0, 0, 0, 1, 4), 4);
        numbers("as they all were, up", x, 0, 11, 11, 12, 13, 14);
        due.is("move down", x.move(0, 2, 0, 0, 3), 3);
        numbers("as they all were, down", x, 0, 12, 13, 14, 13, 14);
        due.is("none, behind the last", x.move(0, 5, 2, 3, 0), 0);
        due.is("all", x.move(2, 0, 0, 2, 3), 3);
        numbers("all to the end", x, 0, 12, 13, 12, 13, 33);
    }

    private static void spoons() {
        DirtPress x = new DirtPress();
        rows(x);
        x.spoon(1, 3, 44);
        due.is("spoons(1, 1)", x.spoons(1, 1), 3);
        due.is("the third", x.hold(1, 2), 23);
        due.is("the fourth stays", x.hold(1, 3), 44);
        Due.row(x, 3, 16, 99, 0, 100, 7);
        due.is("up to 100", x.spoons(0, 3), 2);
        due.is("the first", x.hold(0, 0), 99);
        due.is("the second", x.hold(0, 1), 0);
        due.is("what is not taken", x.hold(0, 2), 3);
        due.is("behind it", x.hold(0, 3), 4);
        due.is("no error is told", x.told(1), 0);
        x.put(3, 0, -1);
        due.is("up to -1", x.spoons(0, 3), 0);
        Due.row(x, 3, 8, 1, 1, 1, 1, 1, 1, 1);
        due.is("no sixth sort", x.spoons(1, 3), 5);
        due.is("all of the one", x.personIs(1, 4), 5);
        x.spoon(1, 0, 7);
        due.is("no sixth sort of the first", x.spoons(0, 3), 5);
        due.is("the next one keeps", x.hold(1, 0), 7);
        x.sheet(3, 8, 0);
        due.is("an empty sheet", x.spoons(1, 3), 0);
    }

    private static void judges() {
        DirtPress x = new DirtPress();
        rows(x);
        x.person(0);
        Due.set(x, 1, 99, 99, 99);
        Due.row(x, 3, 16, 15, 297, 0);
        due.is("all are right", x.judge(3), 3);
        Due.row(x, 3, 16, 15, 297, 0, 0, 0);
        due.is("for which there is nobody", x.judge(3), 3);
        x.put(3, 1, 296);
        due.is("from the first on", x.judge(3), 1);
        x.put(3, 0, 16);
        due.is("none", x.judge(3), 0);
        Due.row(x, 3, 16, 15);
        due.is("less numbers than people", x.judge(3), 1);
        due.is("no error is told", x.told(1) + x.told(2), 0);
    }
}
