/** The edges of promises 13 to 16, and those of TEXTS and THE TAPE under 'Terms', 2. */
public final class EdgesOfTextsTest {
    private static final Due due = new Due("EdgesOfTextsTest");

    public static void main(String[] args) {
        feed();
        words();
        text();
        textStays();
        untell();
        law();
        lengths();
        numbers();
        opens();
        blanksAndSigns();
        names();
        early();
        comparisons();
        wraps();
        byNothing();
        truths();
        due.end();
    }

    private static long fed(DirtPress x, int n) {
        for (int i = 0; i < n; i++) {
            x.feed('1', 1);
        }
        return n;
    }

    private static void feed() {
        due.range("13, feed: n", States::rich, (x, v) -> x.feed(0x3132333435363738L, v), 1, 8);
        due.edge("13, feed: the first byte", States::nothing, x -> x.feed('1', 1), 1);
        due.edge("13, feed: 8 at once", States::nothing, x -> x.feed(0, 8), 8);
        due.edge("13, feed: the 60th byte", x -> fed(x, 59), x -> x.feed('1', 1), 60);
        due.error("13, feed: a 61st byte", x -> fed(x, 60), x -> x.feed('1', 1), Due.FULL);
        due.edge("13, feed: 8 up to the 60th", x -> fed(x, 52), x -> x.feed(0, 8), 60);
        due.error("13, feed: 8 up to a 61st", x -> fed(x, 53), x -> x.feed(0x3131313131313131L, 8), Due.FULL);
        due.error("13, feed: FULL feeds none of two", x -> fed(x, 59), x -> x.feed(0x3131, 2), Due.FULL);
        due.error("13, feed: FULL", States::full, x -> x.feed('1', 1), Due.FULL);
        due.error("13, feed: BEYOND ahead of FULL, n 0", States::full, x -> x.feed('1', 0), Due.BEYOND);
        due.error("13, feed: BEYOND ahead of FULL, n 9", States::full, x -> x.feed('1', 9), Due.BEYOND);
        due.edge("13, feed: there is room again behind a TEXT", x -> States.full(x) + x.text(0), x -> x.feed('1', 1),
            1);
    }

    /** The word's bytes are a TEXT that is worth just this. */
    private static void word(String edge, long word, int n, int want) {
        due.edge("13, feed: " + edge, x -> x.feed(word, n) + x.text(1), x -> x.law(1, 5, 6, 7), want);
    }

    private static void words() {
        word("the lowest first", 0x342D39, 3, 5);
        word("the n lowest alone", 0x3939393939393931L, 1, 1);
        word("of a word below 0", -1L << 8 | 0x37, 1, 7);
        word("all eight", 0x3332312D30303031L, 8, 877);
        word("bits above the 32nd", 0x382B372B36L, 5, 21);
        due.edge("13, feed: a byte is 0 to 255", x -> x.feed(-1, 1), x -> x.text(0), -10);
        due.edge("13, feed: byte 0 is a byte", x -> x.feed(0, 1), x -> x.count(2), 1);
        due.edge("13, feed: byte 177 is not byte 49", x -> x.feed(177, 1), x -> x.text(0), -10);
    }

    private static void text() {
        due.range("14, text: use", States::rich, (x, v) -> x.text(v), 0, 1);
        due.edge("14, text: THE TAPE stays when it is BEYOND", x -> States.rich(x) + x.text(2), x -> x.count(2), 5);
        due.edge("14, text: of an empty TAPE", States::nothing, x -> x.text(0), -10);
        due.edge("14, text: of an empty TAPE, of USE 1", States::nothing, x -> x.text(1), -10);
        due.edge("14, text: of THE TAPE that one ahead emptied", x -> Due.text(x, 0, "w"), x -> x.text(0), -10);
        due.edge("14, text: THE TAPE is empty then", x -> Due.text(x, 0, "w"), x -> x.count(2), 0);
        due.edge("14, text: THE TAPE is empty behind a FAULT", x -> Due.text(x, 0, "w w"), x -> x.count(2), 0);
        due.edge("14, text: THE TAPE starts anew behind a TEXT", x -> Due.text(x, 0, "9"),
            x -> x.feed('1', 1) + x.text(0), x -> x.law(0, 0, 0, 0), 1);
        due.edge("14, text: THE TAPE starts anew behind a FAULT", x -> Due.text(x, 0, "9 "),
            x -> x.feed('1', 1) + x.text(0), x -> x.law(0, 0, 0, 0), 1);
        due.edge("14, text: 1", States::nothing, x -> Due.text(x, 1, "v"), 1);
        due.edge("14, text: in place of one ahead", x -> Due.text(x, 0, "3"), x -> Due.text(x, 0, "4"),
            x -> x.law(0, 0, 0, 0), 4);
        due.edge("14, text: a longer one ahead is gone", x -> Due.text(x, 0, "3+w*2"), x -> Due.text(x, 0, "4"),
            x -> x.law(0, 9, 0, 0), 4);
        due.edge("14, text: of one USE leaves the other, 1", x -> Due.text(x, 1, "3"), x -> Due.text(x, 0, "4"),
            x -> x.law(1, 0, 0, 0), 3);
        due.edge("14, text: of one USE leaves the other, 0", x -> Due.text(x, 0, "3"), x -> Due.text(x, 1, "4"),
            x -> x.law(0, 0, 0, 0), 3);
    }

    private static void textStays() {
        due.edge("14, text: the one ahead stays behind a FAULT", x -> Due.text(x, 0, "3"), x -> Due.text(x, 0, "4+"),
            x -> x.law(0, 0, 0, 0), 3);
        due.edge("14, text: the one ahead of USE 1 stays, too", x -> Due.text(x, 1, "3"), x -> Due.text(x, 1, "4+"),
            x -> x.law(1, 0, 0, 0), 3);
        due.edge("14, text: the one ahead stays behind an empty TAPE", x -> Due.text(x, 0, "3"), x -> x.text(0),
            x -> x.law(0, 0, 0, 0), 3);
        due.edge("14, text: where there was none, none is behind a FAULT", x -> Due.text(x, 0, "4+"), x -> x.untell(0),
            0);
        for (int k = 1; k <= 6; k++) {
            int of = k;
            due.edge("14, text: a FAULT is no ERROR, k " + k, x -> Due.text(x, 0, "4+"), x -> x.told(of), 0);
        }
    }

    private static void untell() {
        due.range("15, untell: use", States::rich, (x, v) -> x.untell(v), 0, 1);
        due.edge("15, untell: there was one", x -> Due.text(x, 0, "0"), x -> x.untell(0), 1);
        due.edge("15, untell: there was none", States::nothing, x -> x.untell(0), 0);
        due.edge("15, untell: of USE 1 there was one", x -> Due.text(x, 1, "0"), x -> x.untell(1), 1);
        due.edge("15, untell: there is none any more", x -> Due.text(x, 0, "0") + x.untell(0), x -> x.untell(0), 0);
        due.edge("15, untell: the other USE has none", x -> Due.text(x, 0, "0"), x -> x.untell(1), 0);
        due.edge("15, untell: the other USE keeps its own", x -> Due.text(x, 0, "3") + Due.text(x, 1, "4"),
            x -> x.untell(0), x -> x.law(1, 0, 0, 0), 4);
        due.edge("15, untell: w then", x -> Due.text(x, 0, "3"), x -> x.untell(0), x -> x.law(0, 7, 0, 0), 7);
        due.edge("15, untell: v then", x -> Due.text(x, 1, "3"), x -> x.untell(1), x -> x.law(1, 70, 0, 0), 70);
        due.edge("15, untell: THE TAPE stays", States::rich, x -> x.untell(0), x -> x.count(2), 5);
    }

    private static void law() {
        due.range("16, law: use", States::rich, (x, v) -> x.law(v, 1, 1, 1), 0, 1);
        due.range("16, law: use without TEXTS", States::nothing, (x, v) -> x.law(v, 1, 1, 1), 0, 1);
        int max = Integer.MAX_VALUE;
        int min = Integer.MIN_VALUE;
        due.edge("16, law: any number as a", x -> Due.text(x, 1, "v+2147*1000*1000+0483*1000+0648"),
            x -> x.law(1, min, 0, 0), 0);
        due.edge("16, law: the most as a", x -> Due.text(x, 1, "v-2147*1000*1000-0483*1000-0647"),
            x -> x.law(1, max, 0, 0), 0);
        due.edge("16, law: b is a SORT that there isn't", x -> Due.text(x, 0, "s"), x -> x.law(0, 0, 7, 0), 7);
        due.edge("16, law: b below 0", x -> Due.text(x, 0, "s"), x -> x.law(0, 0, -7, 0), -7);
        due.edge("16, law: c is nobody", x -> Due.text(x, 1, "n"), x -> x.law(1, 0, 0, 77), 77);
        due.edge("16, law: -9 is no ERROR", x -> Due.text(x, 0, "w"), x -> x.law(0, -1000000001, 0, 0) + x.told(1), -9);
        due.edge("16, law: three NAMES of USE 0 in order", x -> Due.text(x, 0, "w*4+s*2+y"),
            x -> x.law(0, 1, 1, 1) * 100 + x.law(0, 1, 0, 0) * 10 + x.law(0, 0, 1, 0), 742);
        due.edge("16, law: three NAMES of USE 1 in order", x -> Due.text(x, 1, "v*100+s*10+n"), x -> x.law(1, 7, 4, 2),
            742);
    }

    private static void fault(String edge, int use, String text, int want) {
        due.edge(edge + ": " + text, States::nothing, x -> Due.text(x, use, text), want < 0 ? 1 : -10 - want);
    }

    private static void value(String edge, String text, int want) {
        due.edge(edge + ": " + text, x -> Due.text(x, 1, text),
            x -> x.law(1, Integer.MAX_VALUE, Integer.MIN_VALUE, -7), want);
    }

    private static final int NO_FAULT = -1;

    private static void lengths() {
        fault("a TEXT of one byte", 0, "w", NO_FAULT);
        fault("a TEXT of 60 bytes", 0, States.SIXTY, NO_FAULT);
        value("a TEXT of 60 bytes is worth", States.SIXTY, 7);
        String nines = "1";
        while (nines.length() < 59) {
            nines += "+1";
        }
        fault("a TEXT of 59 bytes", 0, nines, NO_FAULT);
        value("the value of 59 bytes", nines, 30);
        fault("a FAULT at the 60th byte", 0, nines + "w", 59);
        fault("60 bytes that end too early", 0, nines + "+", 60);
        fault("a FAULT at the first of 60 bytes", 0, "+" + nines, 0);
    }

    private static void numbers() {
        String edge = "a NUMBER of 1 to 4 digits";
        value(edge, "0", 0);
        value(edge, "9", 9);
        value(edge, "10", 10);
        value(edge, "999", 999);
        value(edge, "9999-9000", 999);
        value(edge, "0000", 0);
        value(edge, "0009", 9);
        fault(edge, 0, "1234", NO_FAULT);
        fault(edge, 0, "12345", 4);
        fault(edge, 0, "00000", 4);
        fault(edge, 0, "w+12345", 6);
        fault(edge, 0, "(12345)", 5);
        fault(edge, 0, "123456", 4);
        fault(edge, 0, "1234+5678", NO_FAULT);
        fault("0 is the least digit", 0, "/", 0);
        fault("9 is the greatest digit", 0, ":", 0);
        fault("0 is the least digit, inside", 0, "1.", 1);
        fault("9 is the greatest digit, inside", 0, "1:", 1);
    }

    private static void opens() {
        String five = "5 of ! and ( are open at once";
        value(five, "!!!!!0", 1);
        value(five, "(((((8)))))", 8);
        value(five, "!(!(!0))", 1);
        value(five, "(!(!(0)))", 0);
        value("what is closed isn't open", "!0+!0+!0+!0+!0+!0", 6);
        value("what is closed isn't open", "(1)+(1)+(1)+(1)+(1)+(1)", 6);
        value("what is closed isn't open", "!(0)+!(0)+!(0)+!(0)", 4);
        value("what is closed isn't open", "((((!0+!0+(3)))))", 5);
        value("what is closed isn't open", "(((((1))+((2)))))", 3);
        String six = "a sixth of ! and ( is not open at once";
        fault(six, 0, "!!!!!!0", 5);
        fault(six, 0, "((((((8))))))", 5);
        fault(six, 0, "!(!(!(0)))", 5);
        fault(six, 0, "(((((!0)))))", 5);
        fault(six, 0, "!!!!!(0)", 5);
        fault(six, 0, "(((((1)+(!2))))", 9);
        fault(six, 0, "!!!!!!", 5);
        fault(six, 0, "((((((", 5);
    }

    private static void blanksAndSigns() {
        fault("no blanks ahead", 0, " w", 0);
        fault("no blanks behind", 0, "w ", 1);
        fault("no blanks inside", 0, "w +s", 1);
        fault("no blanks inside", 0, "w+ s", 2);
        fault("no blanks in a NUMBER", 0, "1 2", 1);
        fault("no line's end", 0, "w\n", 1);
        fault("no sign ahead of a NUMBER", 0, "-1", 0);
        fault("no sign ahead of a NUMBER", 0, "+1", 0);
        fault("no sign behind a sign", 0, "1+-1", 2);
        fault("no sign twice", 0, "w||s", 2);
        fault("no sign twice", 0, "w&&s", 2);
        fault("no sign twice", 0, "w<=s", 2);
        fault("no sign twice", 0, "w==s", 2);
        fault("no ! behind a NAME", 0, "w!", 1);
        fault("no ! that is not equal", 0, "w!=s", 1);
        fault("nothing closes what isn't open", 0, "w)", 1);
        fault("nothing closes what isn't open", 0, ")", 0);
        fault("nothing closes what is closed", 0, "(w))", 3);
        fault("nothing is open in vain", 0, "()", 1);
        fault("no byte above 127", 0, "w+\u00ff", 2);
        fault("no byte 0", 0, "w\u0000", 1);
        fault("no other sign", 0, "w^s", 1);
        fault("no other sign", 0, "w,s", 1);
        fault("no ~", 0, "~w", 0);
    }

    private static void names() {
        for (String name : new String[] {"w", "s", "y"}) {
            fault("a NAME of USE 0", 0, name, NO_FAULT);
        }
        for (String name : new String[] {"v", "s", "n"}) {
            fault("a NAME of USE 1", 1, name, NO_FAULT);
        }
        for (String name : new String[] {"v", "n", "x", "W", "S", "Y", "t", "z"}) {
            fault("no NAME of USE 0", 0, name, 0);
        }
        for (String name : new String[] {"w", "y", "u", "V", "S", "N", "m", "o"}) {
            fault("no NAME of USE 1", 1, name, 0);
        }
        fault("a NAME of USE 1 in USE 0, behind a NAME", 0, "w+n", 2);
        fault("a NAME of USE 0 in USE 1, behind a NAME", 1, "v+y", 2);
        fault("a NAME is one byte", 0, "ws", 1);
        fault("a NAME is not behind a NUMBER", 0, "2w", 1);
        fault("a NUMBER is not behind a NAME", 0, "w2", 1);
        fault("a NAME is not behind what is closed", 0, "(w)s", 3);
        fault("nothing is open behind a NAME", 0, "w(s)", 1);
        fault("nothing is open behind a NUMBER", 0, "2(s)", 1);
    }

    private static void early() {
        for (String text : new String[] {"", "w+", "w-", "w*", "w/", "w%", "w<", "w=", "w>", "w|", "w&", "!", "(", "(w",
            "((w)", "(w+", "!(w", "w+(", "!!!!!", "(((((", "(((((w))))", "1+!"}) {
            fault("it ends too early", 0, text, text.length());
        }
        for (String text : new String[] {"(w+4", "(w+", "(w", "("}) {
            due.edge("what stood on THE TAPE ahead doesn't go on: " + text, x -> Due.text(x, 0, "(w+4)"),
                x -> Due.text(x, 0, text), -10 - text.length());
        }
        fault("the first byte, not the last", 0, "w++)", 2);
        fault("the first byte of two FAULTS", 0, "(w w", 2);
        fault("a FAULT inside", 0, "(1+(2*)+3)", 6);
    }

    private static void comparisons() {
        String two = "no second comparison";
        fault(two, 0, "1<2<3", 3);
        fault(two, 0, "1<2=1", 3);
        fault(two, 0, "1=2=3", 3);
        fault(two, 0, "1>2>3", 3);
        fault(two, 0, "1+1<2*2>3", 7);
        fault(two, 0, "w&1<2<3", 5);
        fault(two, 0, "w|1<2<3", 5);
        fault(two, 0, "(1<2<3", 4);
        fault("one comparison in each part", 0, "1<2&2=2|3>4", NO_FAULT);
        fault("a comparison in what is closed", 0, "(1<2)<(2>3)", NO_FAULT);
        fault("a comparison in what is not", 0, "!(1<2)=0", NO_FAULT);
    }

    private static void wraps() {
        value("a sum wraps, to the least", "v+1=s", 1);
        value("a sum wraps from twice the most", "v+v+9", 7);
        value("a difference wraps, to the most", "s-1=v", 1);
        value("what is less than 0 by wrapping", "0-s<0", 1);
        value("a product wraps", "v*2+9", 7);
        value("a product of the least wraps", "s*(0-1)=s", 1);
        value("a product of four NUMBERS wraps", "(9999*9999*9999)%1000+999", 999 + product() % 1000);
        value("the least by -1 wraps", "s/(0-1)=s", 1);
        value("the rest of the least by -1", "s%(0-1)+5", 5);
        value("the most is above the least", "v>s", 1);
        value("the least is less than the most", "s<v", 1);
        value("v is taken whole", "v%1000", 647);
    }

    private static int product() {
        return 9999 * 9999 * 9999;
    }

    private static void byNothing() {
        value("a quotient by 0 is 0", "5/0", 0);
        value("0 by 0 is 0", "0/0", 0);
        value("a rest by 0 is 0", "5%0", 0);
        value("a rest of 0 by 0 is 0", "0%0", 0);
        value("a quotient by what is 0", "5/(3-3)+8", 8);
        value("a rest by what is 0", "5%(3-3)+8", 8);
        value("a quotient of what is less", "4/5", 0);
        value("a rest of what is less", "4%5", 4);
        value("a quotient by 1", "5/1", 5);
        value("a rest by 1", "5%1", 0);
        value("a rest by itself", "5%5", 0);
    }

    private static void truths() {
        value("| of 0 and 0", "0|0", 0);
        value("| of 0 and 2", "0|2", 1);
        value("| of 2 and 0", "2|0", 1);
        value("| of 2 and 4", "2|4", 1);
        value("& of 0 and 0", "0&0", 0);
        value("& of 0 and 2", "0&2", 0);
        value("& of 2 and 0", "2&0", 0);
        value("& of 2 and 4", "2&4", 1);
        value("what is below 0 is true, |", "n|0", 1);
        value("what is below 0 is true, &", "n&1", 1);
        value("what is below 0 is true, !", "!n", 0);
        value("! of 0", "!0", 1);
        value("! of 1", "!1", 0);
        value("! of 7", "!7", 0);
        value("! of ! of 7", "!!7", 1);
        value("< of what is less", "1<2", 1);
        value("< of the same", "2<2", 0);
        value("< of what is more", "3<2", 0);
        value("= of what is less", "1=2", 0);
        value("= of the same", "2=2", 1);
        value("= of what is more", "3=2", 0);
        value("> of what is less", "1>2", 0);
        value("> of the same", "2>2", 0);
        value("> of what is more", "3>2", 1);
        value("what stands alone is itself", "7", 7);
        value("what is in ( ) is itself", "(7)", 7);
        value("all is worked out: behind what is true", "1|5/0", 1);
        value("all is worked out: behind what isn't", "0&5/0", 0);
    }
}
