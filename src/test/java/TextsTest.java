/** Promises 13 to 16, and TEXTS; their edges stand in EdgesOfTextsTest. */
public final class TextsTest {
    private static final Due due = new Due("TextsTest");

    public static void main(String[] args) {
        feeding();
        texts();
        untelling();
        laws();
        values();
        faults();
        opens();
        due.end();
    }

    private static long told(DirtPress x) {
        x.person(3);
        Due.text(x, 0, "w+1");
        Due.text(x, 1, "v*2");
        return Due.feed(x, "w-");
    }

    private static void feeding() {
        DirtPress x = new DirtPress();
        due.is("feed of 3", x.feed(0x2B77L, 2), 2);
        due.is("the lowest first", x.feed(0xFFFFFFFFFFFFFF39L, 1), 3);
        due.is("that text", x.text(0), 1);
        due.is("is w+9", x.law(0, -5, 0, 0), 4);
        due.is("feed of 8", x.feed(0x3938373635343332L, 8), 8);
        due.is("count(2)", x.count(2), 8);
        due.is("the fifth digit", x.text(0), -14);
        due.is("all eight bytes of a word", x.feed(0x312B312B312B312BL, 8), 8);
        due.is("the first of them", x.text(0), -10);
    }

    private static void texts() {
        DirtPress x = new DirtPress();
        told(x);
        due.is("a fault at the end", x.text(0), -12);
        due.is("the tape is empty", x.count(2), 0);
        due.is("the one ahead stays", x.law(0, 4, 0, 0), 5);
        due.is("no error is told", x.told(1) + x.told(2) + x.told(3) + x.told(4), 0);
        due.is("in place of one ahead", Due.text(x, 0, "w*3"), 1);
        due.is("the tape is empty then", x.count(2), 0);
        due.is("the later one", x.law(0, 2, 0, 0), 6);
        due.is("the other use keeps its own", x.law(1, 4, 0, 0), 8);
        due.is("an empty tape", x.text(1), -10);
    }

    private static void untelling() {
        DirtPress x = new DirtPress();
        due.is("untell of none", x.untell(0), 0);
        told(x);
        due.is("untell(0)", x.untell(0), 1);
        due.is("untell(0) again", x.untell(0), 0);
        due.is("without a text", x.law(0, 4, 0, 0), 4);
        due.is("the other use", x.law(1, 4, 0, 0), 8);
        due.is("untell(1)", x.untell(1), 1);
        due.is("the tape stays", x.count(2), 2);
    }

    private static void laws() {
        DirtPress x = new DirtPress();
        Due.text(x, 0, "w*100+s*10+y-400");
        due.is("names of 0 in order", x.law(0, 3, 9, 13), 3);
        Due.text(x, 1, "v*100+s*10+n");
        due.is("names of 1 in order", x.law(1, 3, 2, 1), 321);
        due.is("held above", x.law(1, 30, 2, 1), 999);
        due.is("held below", x.law(1, -30, 2, 1), 0);
    }

    private static void value(String text, int want) {
        DirtPress x = new DirtPress();
        due.is("text " + text, Due.text(x, 1, text), 1);
        due.is("value of " + text, x.law(1, 7, 3, 0 - 5), want);
    }

    private static void values() {
        value("9-4-3", 2);
        value("100/7/2", 7);
        value("100%30%4", 2);
        value("2+3*4", 14);
        value("2*3+4", 10);
        value("(2+3)*4", 20);
        value("20/3*3", 18);
        value("20%3/2", 1);
        value("5/0+6%0+4", 4);
        value("1+1=2", 1);
        value("3<1+3", 1);
        value("1|1&0", 1);
        value("1&0|1", 1);
        value("0|0|4", 1);
        value("4&4&0", 0);
        value("1<2&2<3", 1);
        value("1<2&3<3", 0);
        value("!0+5", 6);
        value("!0*5", 5);
        value("!(1=2)*6", 6);
        value("v*10+s", 73);
        value("n+9", 4);
        value("v", 7);
    }

    private static void fault(String text, int want) {
        DirtPress x = new DirtPress();
        Due.text(x, 0, "w+2");
        due.is("fault of " + text, Due.text(x, 0, text), -10 - want);
        due.is("after a fault", x.law(0, 1, 0, 0), 3);
        due.is("the tape after a fault", x.count(2), 0);
    }

    private static void faults() {
        fault("w+*2", 2);
        fault("w+(s*2", 6);
        fault("1<2|3<4<5", 7);
        fault("(w+(s)", 6);
        fault("2*(w+s)y", 7);
        fault("!(w=s)&y|", 9);
    }

    private static void opens() {
        value("!0+!0+!0+!0+!0+!0+!0", 7);
        value("1+(2*(3+(1|(0&(5)))))", 9);
        fault("((((!w+!(w))))", 8);
        fault("(((((w)+!!w", 9);
        fault("(((((w+!w", 7);
    }
}
