import java.util.ArrayList;
import java.util.List;
import java.util.Set;
import java.util.TreeSet;
import java.util.function.IntPredicate;
import java.util.stream.Stream;

/**
 * Rules that nothing comes to, and tests that are the same, for three simple tests joined in each way of SHAPES.
 * What is due is found by trying all mails: which of the three hold for one and the same mail.
 */
public final class JoinedTestsTest {
    private static final Check C = new Check();

    /** Each a kind and a number; the edges of each kind, and one or two within. */
    private static final List<String> SIMPLE = List.of("a0", "f0", "f9", "t0", "t9", "s0", "s15", "b0", "b15", "z0",
        "z1", "z500", "z998", "z999", "d0", "d6", "n1", "n2", "n9", "n10", "k0", "k7");
    /** Simple tests that look at the same part of a mail. */
    private static final List<List<String>> RELATED = List.of(List.of("f0", "f1", "f9"), List.of("d0", "d1", "d6"),
        List.of("z0", "z500", "z998", "z999"), List.of("s0", "s15", "b0", "b15"), List.of("k0", "k1", "s0"),
        List.of("t0", "t9", "n1", "n2", "n5", "n9", "n10"));

    /** Ways to join p, q and r, each a kind and its parts; 0 to 9, then a to f, are the first sixteen of these ways. */
    private static final List<String> SHAPES = List.of("!p", "!q", "!r", "|pq", "&pq", "!4", "&5r", "|qp", "&qp", "!8",
        "|q1", "&aa", "&1q", "|pc", "&pa", "&53", "|p3", "|3r", "&4r", "|01", "|02", "|0q", "&p1", "&3r", "|4r", "!3",
        "|6r", "&7q", "&9q", "!b", "|dc", "&ea", "|44", "&33", "!f");

    public static void main(String[] args) {
        for (String p : SIMPLE) {
            for (String q : SIMPLE) {
                look(p, q, p);
            }
        }
        for (List<String> some : RELATED) {
            for (String p : some) {
                for (String q : some) {
                    for (String r : some) {
                        look(p, q, r);
                    }
                }
            }
        }
        C.end();
    }

    private static void look(String... simple) {
        int[][] tests = testsOf(simple);
        Set<Integer> mails = mailsFor(simple);
        String name = String.join(" ", simple);
        lookAtSame(name, tests, mails);
        lookAtRules(name, tests, mails);
    }

    /** The simple tests, then one for each shape; each a kind and two numbers, as the call takes them. */
    private static int[][] testsOf(String[] simple) {
        List<int[]> tests = new ArrayList<>();
        for (String test : simple) {
            tests.add(new int[] {test.charAt(0), Integer.parseInt(test.substring(1)), 0});
        }
        for (String shape : SHAPES) {
            int first = partOf(shape.charAt(1));
            tests.add(new int[] {shape.charAt(0), first, shape.length() > 2 ? partOf(shape.charAt(2)) : 0});
        }
        return tests.toArray(int[][]::new);
    }

    /** The number of the test that a letter or a digit of a shape stands for. */
    private static int partOf(char letter) {
        int simple = "pqr".indexOf(letter);
        return simple >= 0 ? simple : 3 + Character.digit(letter, 16);
    }

    // ---- what is due

    private interface Meets {
        boolean by(char kind, int number, int value);
    }

    /** For each mail that there can be, which of the simple tests hold for it, as bits; a 'k' is left out. */
    private static Set<Integer> mailsFor(String[] simple) {
        Set<Integer> mails = truths(simple, "f", 0, 9, (kind, a, sender) -> sender == a);
        mails = joined(mails, truths(simple, "tn", 1, 1023,
            (kind, a, receivers) -> kind == 't' ? (receivers & 1 << a) != 0 : Integer.bitCount(receivers) >= a));
        mails = joined(mails, truths(simple, "s", 0, 65535, (kind, a, subject) -> (subject & 1 << a) != 0));
        mails = joined(mails, truths(simple, "b", 0, 65535, (kind, a, body) -> (body & 1 << a) != 0));
        mails = joined(mails, truths(simple, "z", 1, 999, (kind, a, size) -> size > a));
        mails = joined(mails, truths(simple, "d", 0, 6, (kind, a, weekday) -> weekday == a));
        return joined(mails, truths(simple, "a", 0, 0, (kind, a, any) -> true));
    }

    /** The same by one part of the mails alone: a number from low to high, at which tests of some kinds look. */
    private static Set<Integer> truths(String[] simple, String kinds, int low, int high, Meets meets) {
        boolean isAsked = Stream.of(simple).anyMatch(test -> kinds.indexOf(test.charAt(0)) >= 0);
        Set<Integer> all = new TreeSet<>();
        for (int value = low; value <= (isAsked ? high : low); value++) {
            int bits = 0;
            for (int i = 0; i < simple.length; i++) {
                char kind = simple[i].charAt(0);
                int number = Integer.parseInt(simple[i].substring(1));
                bits |= kinds.indexOf(kind) >= 0 && meets.by(kind, number, value) ? 1 << i : 0;
            }
            all.add(bits);
        }
        return all;
    }

    /** Each of the one part with each of the other part. */
    private static Set<Integer> joined(Set<Integer> one, Set<Integer> other) {
        Set<Integer> all = new TreeSet<>();
        for (int bits : one) {
            for (int more : other) {
                all.add(bits | more);
            }
        }
        return all;
    }

    /** Whether a test can hold for the mail, or can fail for it; a 'k' can do both each time it is looked at. */
    private static boolean can(boolean hold, int[][] tests, int test, int mail) {
        int a = tests[test][1];
        int b = tests[test][2];
        return switch (tests[test][0]) {
            case 'k' -> true;
            case '!' -> can(!hold, tests, a, mail);
            case '&', '|' -> hold == (tests[test][0] == '&')
                ? can(hold, tests, a, mail) && can(hold, tests, b, mail)
                : can(hold, tests, a, mail) || can(hold, tests, b, mail);
            default -> ((mail & 1 << test) != 0) == hold;
        };
    }

    // ---- what is asked

    private static Filterbench benchWith(int[][] tests) {
        Filterbench bench = new Filterbench();
        for (int[] test : tests) {
            bench.test((char) test[0], test[1], test[2]);
        }
        return bench;
    }

    private static void lookAtSame(String name, int[][] tests, Set<Integer> mails) {
        for (int i = 0; i < tests.length; i++) {
            Filterbench bench = benchWith(tests);
            for (int j = i; j < tests.length; j++) {
                int one = i;
                int two = j;
                boolean differ = mails.stream().anyMatch(m -> can(true, tests, one, m) && can(false, tests, two, m)
                    || can(true, tests, two, m) && can(false, tests, one, m));
                C.due(name + ": areSame(" + i + ", " + j + ")", !differ, () -> bench.areSame(one, two));
            }
        }
    }

    private static void lookAtRules(String name, int[][] tests, Set<Integer> mails) {
        lookAtRules(name + ", all end, backwards", tests, mails, -1, tests.length - 1, i -> true);
        for (int first = 0; first < tests.length; first += 12) {
            lookAtRules(name + ", nothing ends", tests, mails, 1, first, i -> false);
            lookAtRules(name + ", all end", tests, mails, 1, first, i -> true);
        }
        for (int first = 0; first < tests.length; first += 7) {
            int end = first;
            lookAtRules(name + ", " + end + " ends", tests, mails, 1, first, i -> i == end);
        }
    }

    /** Makes rules of up to twelve tests, in steps from the first one, and looks at each of these rules. */
    private static void lookAtRules(String name, int[][] tests, Set<Integer> mails, int step, int first,
            IntPredicate ends) {
        Filterbench bench = benchWith(tests);
        List<Integer> ahead = new ArrayList<>();
        int rule = 0;
        for (int i = first; i >= 0 && i < tests.length && rule < 12; i += step) {
            int test = i;
            bench.rule(2, test);
            int number = rule;
            boolean isMet = mails.stream().anyMatch(m -> can(true, tests, test, m)
                && ahead.stream().allMatch(t -> can(false, tests, t, m)));
            C.due(name + ": isShadowed of " + i, !isMet, () -> bench.isShadowed(2, number));
            if (ends.test(i)) {
                bench.action(2, rule, 's', 0);
                ahead.add(i);
            }
            rule++;
        }
    }
}
