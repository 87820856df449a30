import java.util.Arrays;
import java.util.HashMap;
import java.util.HashSet;
import java.util.Map;
import java.util.Random;
import java.util.Set;

/** By plain lists and searches: each FAULT of short TEXTS, and NETS. */
public final class ProofTest {
    private static final Due due = new Due("ProofTest");
    private static final int MOST_CALLS = 512;

    private final String signs;
    private final int longest;
    private final Map<String, Set<String>> made = new HashMap<>();
    private DirtPress x = new DirtPress();
    private int calls;

    private ProofTest(String signs, int longest) {
        this.signs = signs;
        this.longest = longest;
    }

    public static void main(String[] args) {
        // Each beginning must be ended by a TEXT of the list: by one byte more, and one for each ( that is open.
        new ProofTest("w1+*<=&|!()", 9).faults(4);
        new ProofTest("w1+!(", 9).faults(4);
        new ProofTest("w!(", 13).faults(6);
        new ProofTest("1-", 8).faults(7);
        nets();
        due.end();
    }

    private void faults(int length) {
        Set<String> texts = new HashSet<>();
        Set<String> begun = new HashSet<>();
        for (int i = 1; i <= longest; i++) {
            texts.addAll(list('T', i, 0));
        }
        for (String text : texts) {
            for (int i = 0; i <= text.length(); i++) {
                begun.add(text.substring(0, i));
            }
        }
        ask("", length, texts, begun);
    }

    private void ask(String tape, int more, Set<String> texts, Set<String> begun) {
        int fault = 0;
        while (fault < tape.length() && begun.contains(tape.substring(0, fault + 1))) {
            fault++;
        }
        if (calls + 4 > MOST_CALLS) {
            x = new DirtPress();
            calls = 0;
        }
        calls += 4;
        due.is("text(0) of " + tape, Due.text(x, 0, tape), texts.contains(tape) ? 1 : -10 - fault);
        for (int i = 0; i < signs.length() && more > 0; i++) {
            ask(tape + signs.charAt(i), more - 1, texts, begun);
        }
    }

    /** All that the grammar makes of a name (T, A, B, S, P, Q) with just so many bytes, by the signs asked here. */
    private Set<String> list(char name, int length, int open) {
        String key = name + " " + length + " " + open;
        if (!made.containsKey(key)) {
            Set<String> all = new HashSet<>();
            switch (name) {
                case 'T': chains(all, name, 'A', "|", length, open); break;
                case 'A': chains(all, name, 'B', "&", length, open); break;
                case 'B': chains(all, 'S', 'S', "<=>", length, open); break;
                case 'S': chains(all, name, 'P', "+-", length, open); break;
                case 'P': chains(all, name, 'Q', "*/%", length, open); break;
                default: units(all, length, open); break;
            }
            made.put(key, all);
        }
        return made.get(key);
    }

    private void chains(Set<String> all, char left, char right, String joins, int length, int open) {
        all.addAll(list(right, length, open));
        for (int i = 1; i < length - 1; i++) {
            for (String a : list(left, i, open)) {
                for (String b : list(right, length - 1 - i, open)) {
                    for (char join : joins.toCharArray()) {
                        if (signs.indexOf(join) >= 0) {
                            all.add(a + join + b);
                        }
                    }
                }
            }
        }
    }

    private void units(Set<String> all, int length, int open) {
        if (length == 1 && signs.indexOf('w') >= 0) {
            all.add("w");
        }
        if (length <= 4 && signs.indexOf('1') >= 0) {
            all.add("1".repeat(length));
        }
        if (open < 5 && length > 1 && signs.indexOf('!') >= 0) {
            for (String q : list('Q', length - 1, open + 1)) {
                all.add("!" + q);
            }
        }
        if (open < 5 && length > 2 && signs.indexOf('(') >= 0) {
            for (String t : list('T', length - 2, open + 1)) {
                all.add("(" + t + ")");
            }
        }
    }

    private static void nets() {
        Random random = new Random(12);
        for (int run = 0; run < 200; run++) {
            int people = 2 + random.nextInt(4);
            int[] balances = new int[people];
            DirtPress x = new DirtPress();
            for (int i = 0; i < people; i++) {
                x.person(0);
                x.spoon(i, 0, 50);
            }
            for (int i = random.nextInt(6); i > 0; i--) {
                int from = random.nextInt(people);
                int to = random.nextInt(people);
                int n = 1 + random.nextInt(2);
                if (x.lend(from, to, 0, n) > 0) {
                    balances[from] += n;
                    balances[to] -= n;
                }
            }
            due.is("nets(0) of " + Arrays.toString(balances), x.nets(0), fewest(balances));
        }
    }

    private static int fewest(int[] balances) {
        int payments = 0;
        while (!areDone(balances, payments)) {
            payments++;
        }
        return payments;
    }

    /** Tries every payment of every number of SPOONS. */
    private static boolean areDone(int[] balances, int payments) {
        int open = 0;
        int most = 0;
        for (int balance : balances) {
            open += balance != 0 ? 1 : 0;
            most += Math.max(0, balance);
        }
        if (open == 0 || open > 2 * payments) {
            return open == 0;
        }
        for (int from = 0; from < balances.length; from++) {
            for (int to = 0; to < balances.length; to++) {
                for (int n = 1; n <= most && from != to; n++) {
                    balances[from] += n;
                    balances[to] -= n;
                    boolean done = areDone(balances, payments - 1);
                    balances[from] -= n;
                    balances[to] += n;
                    if (done) {
                        return true;
                    }
                }
            }
        }
        return false;
    }
}
