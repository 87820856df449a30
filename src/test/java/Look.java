import java.util.ArrayList;
import java.util.List;

/** All that can be seen of an object, but THE TRACE and what told() tells, in parts; it is not used any more then. */
enum Look {
    PEOPLE, TEXTS, SHEETS, IMAGE;

    private static final int[][] NAMED = {{5, 1, 2}, {0, 0, 0}, {3, 4, 999}, {-7, 2, 8}, {1, 3, 5}};

    String at(DirtPress x) {
        List<Long> seen = new ArrayList<>();
        switch (this) {
            case PEOPLE:
                people(x, seen);
                break;
            case TEXTS:
                texts(x, seen);
                break;
            case SHEETS:
                sheets(x, seen);
                break;
            default:
                seen.add((long) x.restore());
                people(x, seen);
                texts(x, seen);
                seen.add((long) x.image());
                break;
        }
        return seen.toString();
    }

    private static void people(DirtPress x, List<Long> seen) {
        for (int what : new int[] {0, 1, 2, 3, 5}) {
            seen.add((long) x.count(what));
        }
        int people = x.count(0);
        for (int p = 0; p < people; p++) {
            for (int what = 0; what <= 6; what++) {
                seen.add((long) x.personIs(p, what));
            }
            for (int sort = 0; sort < 5; sort++) {
                seen.add((long) x.hold(p, sort));
            }
            for (int other = 0; other < people; other++) {
                if (other != p) {
                    seen.add((long) x.owes(p, other));
                }
            }
        }
    }

    /** The TEXTS by what they give, THE TAPE as a TEXT of USE 0, and the numbers that wait. */
    private static void texts(DirtPress x, List<Long> seen) {
        laws(x, seen);
        seen.add((long) x.text(0));
        laws(x, seen);
        seen.add((long) x.untell(1));
        seen.add((long) x.check());
    }

    private static void laws(DirtPress x, List<Long> seen) {
        for (int[] named : NAMED) {
            seen.add((long) x.law(0, named[0], named[1], named[2]));
            seen.add((long) x.law(1, named[0], named[1], named[2]));
        }
    }

    /** The numbers of a SHEET come by fives to its head, and from there to somebody's SPOONS. */
    private static void sheets(DirtPress x, List<Long> seen) {
        x.person(0);
        for (int sheet = 0; sheet < 4; sheet++) {
            int length = 24;
            while (length > 0 && x.move(sheet, length, sheet, length, 0) != 0) {
                length--;
            }
            seen.add((long) length);
            for (int other = 0; other < 4; other++) {
                seen.add((long) x.move(sheet, 0, other, 0, 0));
            }
            for (int at = 0; at < length; at += 5) {
                seen.add((long) x.move(sheet, at, sheet, 0, Math.min(5, length - at)));
                seen.add((long) x.spoons(0, sheet));
                for (int sort = 0; sort < 5; sort++) {
                    seen.add((long) x.hold(0, sort));
                }
            }
            bits(x, sheet, seen);
        }
    }

    private static void bits(DirtPress x, int sheet, List<Long> seen) {
        for (int v : new int[] {256 + 7, 65536 + 7}) {
            seen.add((long) x.put(sheet, 0, v));
            seen.add((long) x.spoons(0, sheet));
        }
    }
}
