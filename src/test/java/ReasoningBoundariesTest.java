import java.util.NoSuchElementException;

/**
 * The boundaries of rules that nothing comes to, of tests that are the same, and of learning, sentence by sentence:
 * one step inside, the boundary itself, and one step beyond it.
 */
public final class ReasoningBoundariesTest {
    private static final Class<NoSuchElementException> ELEMENT = NoSuchElementException.class;

    private static final Check C = new Check();

    public static void main(String[] args) {
        anySender();
        anyReceivers();
        numbersOfReceivers();
        anyWords();
        anySize();
        anyWeekday();
        kindsByThemselves();
        kindsThatEnd();
        rulesAhead();
        aheadAndBehind();
        lastRule();
        byTestsAlone();
        flagsAsMayBe();
        sameNumbers();
        sameSizes();
        sameReceivers();
        sameFlags();
        sameBothWays();
        sameEitherWay();
        sameByTwoNumbers();
        sameByThreeNumbers();
        learnKinds();
        learnKindsInOrder();
        learnContrariesBehind();
        learnEdgesOfNumbers();
        learnSizes();
        learnSizesThatCount();
        learnOneAheadOfPairs();
        learnPairs();
        learnPairsInOrder();
        learnEndsOfTheOrder();
        learnNoTest();
        learnMovedSince();
        learnOthers();
        learnAllMoved();
        learnRoom();
        isTrue();
        trueWithinAside();
        C.end();
    }

    // ---- "Rules that nothing comes to"

    private static int not(Filterbench x, int test) {
        return x.test('!', test, 0);
    }

    /** Tests of a kind for the numbers from low to high, and the number of the first of them. */
    private static int row(Filterbench x, char kind, int low, int high) {
        int first = x.test(kind, low, 0);
        for (int a = low + 1; a <= high; a++) {
            x.test(kind, a, 0);
        }
        return first;
    }

    /** Whether a rule with the test is shadowed behind one that ends by the other test. */
    private static void dueBehind(Filterbench x, String what, boolean due, int ends, int test) {
        x.clear(3);
        Sorter.when(x, 3, ends, 's', 0);
        int rule = x.rule(3, test);
        C.due(what, due, () -> x.isShadowed(3, rule));
    }

    private static void dueNever(Filterbench x, String what, boolean due, int test) {
        x.clear(3);
        x.rule(3, test);
        C.due(what, due, () -> x.isShadowed(3, 0));
    }

    /** "There is no mail, of any sender". */
    private static void anySender() {
        Filterbench x = new Filterbench();
        int first = row(x, 'f', 0, 9);
        int always = x.test('a', 0, 0);
        int eight = Sorter.joined(x, '|', first, first + 7);
        int nine = x.test('|', eight, first + 8);
        int ten = x.test('|', nine, first + 9);
        dueBehind(x, "eight senders end", false, eight, always);
        dueBehind(x, "nine senders end", false, nine, always);
        dueBehind(x, "nine senders end, the tenth", false, nine, first + 9);
        dueBehind(x, "nine senders end, the ninth", true, nine, first + 8);
        dueBehind(x, "nine senders end, the first", true, nine, first);
        dueBehind(x, "ten senders end", true, ten, always);
        dueBehind(x, "ten senders end, the tenth", true, ten, first + 9);
        dueNever(x, "not one of nine", false, not(x, nine));
        dueNever(x, "not one of ten", true, not(x, ten));
        dueNever(x, "the first and the last at once", true, x.test('&', first, first + 9));
        dueNever(x, "one twice", false, x.test('&', first, first));
    }

    /** "Receivers": at least one. */
    private static void anyReceivers() {
        Filterbench x = new Filterbench();
        int first = row(x, 't', 0, 9);
        int always = x.test('a', 0, 0);
        int nine = Sorter.joined(x, '|', first, first + 8);
        int ten = x.test('|', nine, first + 9);
        int last = first + 9;
        dueBehind(x, "nine receivers end", false, nine, always);
        dueBehind(x, "nine receivers end, the tenth", false, nine, last);
        dueBehind(x, "nine receivers end, not the tenth", true, nine, not(x, last));
        dueBehind(x, "nine receivers end, the first", true, nine, first);
        dueBehind(x, "ten receivers end", true, ten, always);
        int everybody = Sorter.joined(x, '&', first, last);
        dueNever(x, "everybody", false, everybody);
        dueBehind(x, "the first one ends, everybody", true, first, everybody);
        dueBehind(x, "everybody ends, the first one", false, everybody, first);
        dueBehind(x, "not the first one ends, everybody", false, not(x, first), everybody);
        dueNever(x, "nobody", true, not(x, ten));
    }

    /** "It has at least a receivers", beside who is among them. */
    private static void numbersOfReceivers() {
        for (int a = 1; a <= 9; a++) {
            Filterbench x = new Filterbench();
            int first = row(x, 't', 0, 9);
            int atLeast = x.test('n', a, 0);
            int more = x.test('n', a + 1, 0);
            String what = "at least " + a + " receivers";
            dueBehind(x, what + " end, one more", true, atLeast, more);
            dueBehind(x, what + " and one more end, " + a, false, more, atLeast);
            int lessNamed = Sorter.joined(x, '&', first, first + a - 1);
            int named = Sorter.joined(x, '&', first, first + a);
            dueBehind(x, what + " and one more end, so many named", false, more, lessNamed);
            dueBehind(x, what + " and one more end, one more named", true, more, named);
            // Ten persons, of whom 10 - a are none of the receivers, leave a.
            int some = Sorter.joined(x, '|', first, first + 9 - a);
            dueBehind(x, what + ": others left out", false, some, atLeast);
            dueBehind(x, what + " and one more: others left out", true, some, more);
        }
        Filterbench x = new Filterbench();
        int always = x.test('a', 0, 0);
        dueBehind(x, "at least one ends", true, x.test('n', 1, 0), always);
        dueBehind(x, "at least two end", false, x.test('n', 2, 0), always);
        dueNever(x, "less than one", true, not(x, x.test('n', 1, 0)));
        dueNever(x, "less than two", false, not(x, x.test('n', 2, 0)));
        dueNever(x, "ten", false, x.test('n', 10, 0));
    }

    /** "Words": none, some, or all. */
    private static void anyWords() {
        for (char kind : new char[] {'s', 'b'}) {
            Filterbench x = new Filterbench();
            int first = row(x, kind, 0, 15);
            int always = x.test('a', 0, 0);
            int some = Sorter.joined(x, '|', first, first + 15);
            int all = Sorter.joined(x, '&', first, first + 15);
            dueBehind(x, kind + ": any word ends", false, some, always);
            dueBehind(x, kind + ": any word ends, the last", true, some, first + 15);
            dueBehind(x, kind + ": any word ends, not the last", false, some, not(x, first + 15));
            dueNever(x, kind + ": all words", false, all);
            dueBehind(x, kind + ": all words end, the first", false, all, first);
            dueBehind(x, kind + ": the first word ends, all", true, first, all);
            dueNever(x, kind + ": a word and not", true, x.test('&', first + 15, not(x, first + 15)));
            int other = x.test(kind == 's' ? 'b' : 's', 15, 0);
            dueBehind(x, kind + ": the same word elsewhere", false, first + 15, other);
        }
    }

    /** "Size", 1 to 999. */
    private static void anySize() {
        int[] bounds = {0, 1, 2, 500, 997, 998, 999};
        for (int bound : bounds) {
            Filterbench x = new Filterbench();
            int over = x.test('z', bound, 0);
            int always = x.test('a', 0, 0);
            String what = "a size over " + bound;
            dueNever(x, what, bound == 999, over);
            dueNever(x, "not " + what, bound == 0, not(x, over));
            dueBehind(x, what + " ends", bound == 0, over, always);
            dueBehind(x, "not " + what + " ends", bound == 999, not(x, over), always);
            if (bound < 999) {
                int next = x.test('z', bound + 1, 0);
                dueBehind(x, what + " ends, one more", true, over, next);
                dueBehind(x, what + " and one more ends, " + bound, false, next, over);
                dueNever(x, what + ", and no more", false, x.test('&', over, not(x, next)));
                dueNever(x, what + " and one more, not " + bound, true, x.test('&', next, not(x, over)));
            }
        }
    }

    /** "And weekday", 0 to 6. */
    private static void anyWeekday() {
        Filterbench x = new Filterbench();
        int first = row(x, 'd', 0, 6);
        int always = x.test('a', 0, 0);
        int six = Sorter.joined(x, '|', first, first + 5);
        int seven = x.test('|', six, first + 6);
        dueBehind(x, "six weekdays end", false, six, always);
        dueBehind(x, "six weekdays end, the seventh", false, six, first + 6);
        dueBehind(x, "six weekdays end, the sixth", true, six, first + 5);
        dueBehind(x, "seven weekdays end", true, seven, always);
        dueNever(x, "not one of six", false, not(x, six));
        dueNever(x, "not one of seven", true, not(x, seven));
        dueNever(x, "two weekdays at once", true, x.test('&', first, first + 6));
        int sender = x.test('f', 6, 0);
        dueBehind(x, "six weekdays end, a sender", false, six, sender);
        dueBehind(x, "a weekday ends, a sender of this number", false, first + 6, sender);
    }

    /** "Of any sender, receivers, words, size and weekday": what holds of one says nothing of another. */
    private static void kindsByThemselves() {
        String kinds = "ftsbzdn";
        for (char one : kinds.toCharArray()) {
            for (char other : kinds.toCharArray()) {
                if (one != other) {
                    Filterbench x = new Filterbench();
                    int p = x.test(one, 3, 0);
                    int q = x.test(other, 3, 0);
                    String what = one + "3 and " + other + "3";
                    dueNever(x, what, false, x.test('&', p, q));
                    dueNever(x, "the first alone of " + what, false, x.test('&', p, not(x, q)));
                    dueNever(x, "neither of " + what, false, x.test('&', not(x, p), not(x, q)));
                    dueBehind(x, "the first ends of " + what, false, p, q);
                }
            }
        }
    }

    /** "Ends the script if its actions have an 's' or 'S'". */
    private static void kindsThatEnd() {
        for (char kind : "mkxrcwFUvisS".toCharArray()) {
            Filterbench x = Sorter.with(kind, 1);
            Sorter.always(x, 0);
            boolean ends = kind == 's' || kind == 'S';
            C.due("ahead of it: " + kind, ends, () -> x.isShadowed(0, 1));
            for (int i = 2; i <= 5; i++) {
                x.action(0, 0, 'F', 1);
            }
            C.due("ahead of it, as the first of five: " + kind, ends, () -> x.isShadowed(0, 1));
            Filterbench last = Sorter.with('F', 1, 'm', 2, 'k', 0, 'i', 3, kind, 1);
            Sorter.always(last, 0);
            C.due("ahead of it, as the last of five: " + kind, ends, () -> last.isShadowed(0, 1));
            C.due("its own: " + kind, false, () -> last.isShadowed(0, 0));
        }
        Filterbench none = Sorter.with();
        Sorter.always(none, 0);
        C.due("ahead of it: no action", false, () -> none.isShadowed(0, 1));
    }

    /** "Each rule ahead of it". */
    private static void rulesAhead() {
        Filterbench x = new Filterbench();
        int yes = x.test('a', 0, 0);
        int no = not(x, yes);
        int word = x.test('s', 0, 0);
        Sorter.when(x, 0, word, 's', 0);
        Sorter.when(x, 0, no, 's', 0);
        x.rule(0, yes);
        C.due("rules ahead: one that ends by a word, one that never does", false, () -> x.isShadowed(0, 2));
        C.due("rules ahead: a test that never holds", true, () -> x.isShadowed(0, 1));
        x.rule(0, word);
        C.due("rules ahead: by the same word", true, () -> x.isShadowed(0, 3));
        Sorter.when(x, 0, not(x, word), 'S', 0);
        C.due("rules ahead: the contrary", false, () -> x.isShadowed(0, 4));
        x.rule(0, yes);
        C.due("rules ahead: a word and its contrary", true, () -> x.isShadowed(0, 5));
        x.clear(0);
        Sorter.when(x, 0, yes);
        C.due("rules ahead: cleared away", false, () -> x.isShadowed(0, 0));
        Sorter.when(x, 0, yes);
        C.due("rules ahead: its actions were cleared away", false, () -> x.isShadowed(0, 1));
    }

    private static void aheadAndBehind() {
        Filterbench x = Sorter.with('F', 1);
        Sorter.always(x, 0, 's', 0);
        Sorter.always(x, 0, 'F', 2);
        C.due("what ends behind it", false, () -> x.isShadowed(0, 0));
        C.due("what ends by itself", false, () -> x.isShadowed(0, 1));
        C.due("what ends ahead of it", true, () -> x.isShadowed(0, 2));
        x.reorder(0, 1, 2);
        C.due("moved behind it", false, () -> x.isShadowed(0, 1));
        x.reorder(0, 2, 0);
        C.due("moved ahead of it", true, () -> x.isShadowed(0, 1));
        C.due("moved ahead of both", true, () -> x.isShadowed(0, 2));
        Sorter.always(x, 1, 'F', 1);
        C.due("another script", false, () -> x.isShadowed(1, 0));
    }

    /** The 12th rule, behind eleven that end. */
    private static void lastRule() {
        for (int left = 0; left <= 2; left++) {
            Filterbench x = new Filterbench();
            int rest = left;
            for (int rule = 0; rule < 7; rule++) {
                Sorter.when(x, 2, x.test('d', rule, 0), rule < 7 - left ? 's' : 'F', 1);
            }
            for (int rule = 7; rule < 11; rule++) {
                Sorter.when(x, 2, x.test('s', rule, 0), 'S', 0);
            }
            x.rule(2, x.test('a', 0, 0));
            C.due("the 12th rule, behind all weekdays but " + left, rest == 0, () -> x.isShadowed(2, 11));
            C.due("the 11th rule, behind all weekdays but " + left, rest == 0, () -> x.isShadowed(2, 10));
            C.due("the 7th rule", false, () -> x.isShadowed(2, 6));
        }
        Filterbench words = new Filterbench();
        for (int rule = 0; rule < 11; rule++) {
            Sorter.when(words, 1, words.test('b', rule, 0), 's', 0);
        }
        Sorter.when(words, 1, words.test('b', 11, 0));
        C.due("the 12th rule, by another word", false, () -> words.isShadowed(1, 11));
        words.clear(1);
        for (int rule = 0; rule < 11; rule++) {
            Sorter.when(words, 1, rule, 's', 0);
        }
        words.rule(1, Sorter.joined(words, '|', 0, 10));
        C.due("the 12th rule, by one of the eleven words", true, () -> words.isShadowed(1, 11));
    }

    /** "By tests alone": neither the mails that are there nor what actions do. */
    private static void byTestsAlone() {
        Filterbench x = new Filterbench();
        int always = x.test('a', 0, 0);
        int one = x.test('f', 1, 0);
        Sorter.when(x, 0, one, 's', 0);
        x.rule(0, always);
        Sorter.mail(x);
        x.deliver(0);
        C.due("all mails end ahead of it", false, () -> x.isShadowed(0, 1));
        x.clear(0);
        Sorter.when(x, 0, always, 'S', 0, 's', 0);
        Sorter.when(x, 0, one);
        C.due("'S' and 's'", true, () -> x.isShadowed(0, 1));
        x.clear(0);
        Sorter.always(x, 0, 'i', 1);
        Sorter.always(x, 0, 'F', 1);
        Sorter.always(x, 1, 'S', 0);
        C.due("an 'i' ends nothing", false, () -> x.isShadowed(0, 1));
        x.deliver(0);
        C.due("though its script ends all", 2, x::done);
        C.due("and so it is true", true, x::isTrue);
    }

    /** "A 'k' may hold or not, as may be, each time it is looked at". */
    private static void flagsAsMayBe() {
        Filterbench x = new Filterbench();
        int always = x.test('a', 0, 0);
        int never = not(x, always);
        int flag = x.test('k', 0, 0);
        int noFlag = not(x, flag);
        int word = x.test('s', 0, 0);
        dueNever(x, "a flag", false, flag);
        dueNever(x, "no flag", false, noFlag);
        dueNever(x, "a flag that is looked at twice", false, x.test('&', flag, noFlag));
        dueNever(x, "a flag, and never", true, x.test('&', flag, never));
        dueBehind(x, "a flag ends, the flag", false, flag, flag);
        dueBehind(x, "a flag or not ends", false, x.test('|', flag, noFlag), always);
        dueBehind(x, "a flag or always ends", true, x.test('|', flag, always), flag);
        dueBehind(x, "a word with a flag ends, the word", false, x.test('&', word, flag), word);
        dueBehind(x, "a word or a flag ends, the word", true, x.test('|', word, flag), word);
        dueBehind(x, "a word or a flag ends, without the word", false, x.test('|', word, flag), not(x, word));
        dueBehind(x, "a word ends, a flag with it", true, word, x.test('&', flag, word));
        dueBehind(x, "a word ends, a flag or it", false, word, x.test('|', flag, word));
        x.clear(0);
        Sorter.when(x, 0, flag, 's', 0);
        Sorter.when(x, 0, noFlag, 's', 0);
        x.rule(0, always);
        C.due("a flag and its contrary, each looked at by itself", false, () -> x.isShadowed(0, 2));
        int both = x.test('&', flag, word);
        dueNever(x, "a part twice, each looked at by itself", false, x.test('&', both, x.test('!', flag, 0)));
        dueNever(x, "a part that must and must not, by a word", true, x.test('&', both, not(x, word)));
    }

    // ---- "Whether two tests hold for the same mails"

    private static void dueSame(Filterbench x, String what, boolean due, int test, int other) {
        C.due(what, due, () -> x.areSame(test, other));
        C.due(what + ", the other way round", due, () -> x.areSame(other, test));
    }

    private static void sameNumbers() {
        char[] kinds = {'f', 't', 's', 'b', 'd'};
        int[] highs = {9, 9, 15, 15, 6};
        for (int i = 0; i < kinds.length; i++) {
            for (int a = 0; a <= highs[i]; a++) {
                Filterbench x = new Filterbench();
                int test = x.test(kinds[i], a, 0);
                String what = "same " + kinds[i] + a;
                dueSame(x, what, true, test, x.test(kinds[i], a, 77));
                dueSame(x, what + ", itself", true, test, test);
                dueSame(x, what + " and the one below", false, test, x.test(kinds[i], a == 0 ? highs[i] : a - 1, 0));
                dueSame(x, what + " and its contrary", false, test, not(x, test));
                dueSame(x, what + " and its contrary's", true, test, not(x, not(x, test)));
                dueSame(x, what + " and another kind", false, test, x.test(i == 0 ? 't' : 'f', Math.min(a, 9), 0));
                int always = x.test('a', 0, 0);
                dueSame(x, what + " and always", false, test, always);
                dueSame(x, what + " and never", false, test, not(x, always));
            }
        }
        Filterbench x = new Filterbench();
        dueSame(x, "always", true, x.test('a', 1, 2), x.test('a', 3, 4));
        dueSame(x, "never", true, not(x, 0), x.test('&', 0, not(x, 1)));
        dueSame(x, "always and never", false, 0, not(x, 1));
    }

    private static void sameSizes() {
        int[] bounds = {0, 1, 499, 997, 998};
        for (int bound : bounds) {
            Filterbench x = new Filterbench();
            int over = x.test('z', bound, 0);
            dueSame(x, "same size over " + bound, true, over, x.test('z', bound, 0));
            dueSame(x, "same size over " + bound + " and one more", false, over, x.test('z', bound + 1, 0));
            int always = x.test('a', 0, 0);
            dueSame(x, "same size over " + bound + " and always", bound == 0, over, always);
            dueSame(x, "same size over " + bound + " and never", false, over, not(x, always));
        }
        Filterbench x = new Filterbench();
        int last = x.test('z', 999, 0);
        dueSame(x, "same size over 999 and never", true, last, not(x, x.test('a', 0, 0)));
        int between = x.test('&', x.test('z', 10, 0), not(x, x.test('z', 10, 0)));
        dueSame(x, "same size over 10 and not, and never", true, between, last);
        int one = x.test('&', x.test('z', 10, 0), not(x, x.test('z', 11, 0)));
        dueSame(x, "same size 11 and never", false, one, last);
    }

    private static void sameReceivers() {
        for (int a = 1; a <= 9; a++) {
            Filterbench x = new Filterbench();
            int atLeast = x.test('n', a, 0);
            int more = x.test('n', a + 1, 0);
            int always = x.test('a', 0, 0);
            dueSame(x, "same at least " + a, true, atLeast, x.test('n', a, 0));
            dueSame(x, "same at least " + a + " and one more", false, atLeast, more);
            dueSame(x, "same at least " + a + " and always", a == 1, atLeast, always);
            dueSame(x, "same at least " + a + " and never", false, atLeast, not(x, always));
            dueSame(x, "same at least " + a + " or one more", true, atLeast, x.test('|', atLeast, more));
            int first = row(x, 't', 0, 9);
            int named = Sorter.joined(x, '&', first, first + a - 1);
            dueSame(x, "same at least " + a + ", or named", false, atLeast, named);
            dueSame(x, "same " + a + " named", true, named, x.test('&', named, atLeast));
            dueSame(x, "same " + a + " named and one more", false, named, x.test('&', named, more));
        }
        Filterbench x = new Filterbench();
        int first = row(x, 't', 0, 9);
        int nine = Sorter.joined(x, '&', first, first + 8);
        int all = x.test('&', nine, first + 9);
        int ten = x.test('n', 10, 0);
        dueSame(x, "same ten", true, all, ten);
        dueSame(x, "same nine named and ten", false, nine, ten);
        int some = Sorter.joined(x, '|', first, first + 9);
        dueSame(x, "same one of ten, and always", true, some, x.test('a', 0, 0));
        int one = not(x, x.test('n', 2, 0));
        int alone = not(x, Sorter.joined(x, '|', first + 1, first + 9));
        dueSame(x, "same alone", true, alone, x.test('&', one, first));
        dueSame(x, "same one, and alone", false, alone, one);
    }

    /** "'k' may hold or not, each time it is looked at"; "a test by 'k' that matters is not the same as itself". */
    private static void sameFlags() {
        Filterbench x = new Filterbench();
        int always = x.test('a', 0, 0);
        int never = not(x, always);
        int flag = x.test('k', 7, 0);
        int word = x.test('s', 0, 0);
        dueSame(x, "same flag", false, flag, flag);
        dueSame(x, "same flag, another test", false, flag, x.test('k', 7, 0));
        dueSame(x, "same flag and never", false, flag, never);
        dueSame(x, "same flag and always", false, flag, always);
        int off = x.test('&', flag, never);
        dueSame(x, "same flag with never", true, off, off);
        dueSame(x, "same flag with never, and never", true, off, never);
        int on = x.test('|', flag, always);
        dueSame(x, "same flag or always", true, on, on);
        dueSame(x, "same flag or always, and always", true, on, always);
        int some = x.test('&', flag, word);
        dueSame(x, "same flag with a word", false, some, some);
        dueSame(x, "same flag with a word, and the word", false, some, word);
        int swallowed = x.test('|', some, word);
        dueSame(x, "same flag with a word, or the word", true, swallowed, word);
        dueSame(x, "same flag with a word, or the word: itself", true, swallowed, swallowed);
        int less = x.test('&', x.test('|', flag, word), word);
        dueSame(x, "same flag or a word, with the word", true, less, word);
        int either = x.test('|', some, x.test('&', not(x, flag), word));
        dueSame(x, "same flag or not, each with a word", false, either, word);
        dueSame(x, "same flag or not, each with a word: itself", false, either, either);
        dueSame(x, "same flag or not", false, x.test('|', flag, not(x, flag)), always);
        dueSame(x, "same flag and not", false, x.test('&', flag, not(x, flag)), never);
    }

    /** "No mail for which one can hold and the other one not": neither way. */
    private static void sameBothWays() {
        Filterbench x = new Filterbench();
        int p = x.test('s', 0, 0);
        int q = x.test('b', 0, 0);
        int and = x.test('&', p, q);
        int or = x.test('|', p, q);
        dueSame(x, "same: less", false, and, p);
        dueSame(x, "same: more", false, or, p);
        dueSame(x, "same: turned", true, and, x.test('&', q, p));
        dueSame(x, "same: turned, or", true, or, x.test('|', q, p));
        dueSame(x, "same: swallowed", true, p, x.test('|', p, and));
        dueSame(x, "same: swallowed, and", true, p, x.test('&', p, or));
        int r = x.test('f', 3, 0);
        int left = x.test('&', r, or);
        int right = x.test('|', x.test('&', r, p), x.test('&', r, q));
        dueSame(x, "same: shared out", true, left, right);
        dueSame(x, "same: not quite shared out", false, left, x.test('|', x.test('&', r, p), q));
    }

    /** With a test or without it, the word must be there: so it is the same as the word. */
    private static void sameEitherWay() {
        for (char kind : "ftsbzdn".toCharArray()) {
            Filterbench x = new Filterbench();
            int word = x.test('s', 15, 0);
            int test = x.test(kind, 3, 0);
            int again = x.test(kind, 3, 0);
            dueSame(x, "either way of " + kind, true, word, eitherOrWord(x, word, test, not(x, test)));
            dueSame(x, "either way of a like one of " + kind, true, word, eitherOrWord(x, word, again, not(x, test)));
            dueSame(x, "one way of " + kind, false, word, eitherOrWord(x, word, test, again));
            dueSame(x, "the other way of " + kind, false, word, eitherOrWord(x, word, not(x, test), not(x, again)));
        }
        Filterbench x = new Filterbench();
        int word = x.test('s', 15, 0);
        int flag = x.test('k', 3, 0);
        dueSame(x, "either way of a flag", false, word, eitherOrWord(x, word, flag, not(x, flag)));
    }

    /** Both tests, if the word is not there. */
    private static int eitherOrWord(Filterbench x, int word, int one, int other) {
        return x.test('&', x.test('|', one, word), x.test('|', other, word));
    }

    /** Two numbers of a kind, of which one, both or neither can be. */
    private static void sameByTwoNumbers() {
        for (char kind : "ftsbzdn".toCharArray()) {
            Filterbench x = new Filterbench();
            int word = x.test('s', 15, 0);
            int low = x.test(kind, 3, 0);
            int high = x.test(kind, 4, 0);
            boolean isOneOf = kind == 'f' || kind == 'd';
            boolean isRising = kind == 'z' || kind == 'n';
            dueSame(x, "both numbers of " + kind, isOneOf, word, eitherOrWord(x, word, low, high));
            dueSame(x, "the higher number alone of " + kind, isRising, word,
                eitherOrWord(x, word, not(x, low), high));
            dueSame(x, "the lower number alone of " + kind, false, word, eitherOrWord(x, word, low, not(x, high)));
            dueSame(x, "neither number of " + kind, false, word, eitherOrWord(x, word, not(x, low), not(x, high)));
        }
    }

    /** Who is among the receivers, beside how many they are; each may be left to the word. */
    private static void sameByThreeNumbers() {
        for (int a = 1; a <= 4; a++) {
            Filterbench x = new Filterbench();
            int word = x.test('s', 15, 0);
            int first = row(x, 't', 0, 2);
            int three = Sorter.joined(x, '&', first, first + 2);
            int less = not(x, x.test('n', a, 0));
            dueSame(x, "three receivers, and less than " + a, a <= 3, word, eitherOrWord(x, word, three, less));
        }
        for (int a = 6; a <= 9; a++) {
            Filterbench x = new Filterbench();
            int word = x.test('s', 15, 0);
            int first = row(x, 't', 7, 9);
            int none = not(x, Sorter.joined(x, '|', first, first + 2));
            int atLeast = x.test('n', a, 0);
            dueSame(x, "without three receivers, at least " + a, a >= 8, word, eitherOrWord(x, word, none, atLeast));
        }
    }

    // ---- "Learning"

    /** That the box is learned by these parts: each a kind, a number, and whether it is the contrary. */
    private static void dueLearned(String what, Filterbench x, int box, Object... parts) {
        int first = x.test('a', 0, 0) + 1;
        int next = first;
        int[] ends = new int[parts.length / 3];
        for (int i = 0; i < ends.length; i++) {
            next += (Boolean) parts[3 * i + 2] ? 2 : 1;
            ends[i] = next - 1;
        }
        int last = ends.length == 1 ? next - 1 : next;
        C.due(what + ": the last test", last, () -> x.learn(box));
        int begin = first;
        for (int i = 0; i < ends.length; i++) {
            char kind = (Character) parts[3 * i];
            int part = begin;
            int end = ends[i];
            int same = x.test(kind, (Integer) parts[3 * i + 1], 0);
            dueSame(x, what + ": part " + i, true, part, same);
            if (end > part) {
                dueSame(x, what + ": contrary " + i, true, end, not(x, same));
            }
            begin = end + 1;
        }
        if (ends.length == 2) {
            dueSame(x, what + ": both", true, last, x.test('&', ends[0], ends[1]));
        }
    }

    /** Mail of the person 5 to 5, with the word 5 in both, of the size 500, but for one kind; delivered. */
    private static int but(Filterbench x, char kind, int a) {
        return butTwo(x, kind, a, ' ', 0);
    }

    private static int butTwo(Filterbench x, char kind, int a, char other, int b) {
        int sender = kind == 'f' ? a : other == 'f' ? b : 5;
        int receivers = 1 << (kind == 't' ? a : other == 't' ? b : 5);
        int subject = 1 << (kind == 's' ? a : other == 's' ? b : 5);
        int body = 1 << (kind == 'b' ? a : other == 'b' ? b : 5);
        int size = kind == 'z' ? a + 1 : other == 'z' ? b + 1 : 500;
        int mail = x.mail(sender, receivers, subject, body, size);
        x.deliver(mail);
        return mail;
    }

    /** Of each kind: the one that was moved has the number 3, another one 5. */
    private static void learnKinds() {
        for (char kind : "ftsbz".toCharArray()) {
            Filterbench x = new Filterbench();
            int moved = but(x, kind, kind == 'z' ? 600 : 3);
            but(x, ' ', 0);
            x.move(moved, 1);
            dueLearned("learn by " + kind, x, 1, kind, kind == 'z' ? 600 : 3, false);
        }
        Filterbench x = new Filterbench();
        x.pass(2);
        int moved = but(x, ' ', 0);
        x.pass(1);
        but(x, ' ', 0);
        x.move(moved, 7);
        dueLearned("learn by d", x, 7, 'd', 2, false);
    }

    /** "In this order": of two kinds that tell the mails apart, the one ahead. */
    private static void learnKindsInOrder() {
        String kinds = "ftsbz";
        for (int i = 0; i < kinds.length(); i++) {
            for (int j = i + 1; j < kinds.length(); j++) {
                char kind = kinds.charAt(i);
                char behind = kinds.charAt(j);
                Filterbench x = new Filterbench();
                int moved = butTwo(x, kind, 6, behind, behind == 'z' ? 600 : 0);
                but(x, ' ', 0);
                x.move(moved, 1);
                // The other one has the number 5, which is ahead of 6, by its contrary.
                dueLearned("learn by " + kind + " ahead of " + behind, x, 1, kind, 5, true);
            }
            Filterbench x = new Filterbench();
            char kind = kinds.charAt(i);
            int moved = but(x, kind, kind == 'z' ? 600 : 6);
            x.pass(1);
            but(x, ' ', 0);
            x.move(moved, 1);
            dueLearned("learn by " + kind + " ahead of d", x, 1, kind, kind == 'z' ? 600 : 5, kind != 'z');
        }
    }

    /** "By rising numbers, each with its contrary directly behind it". */
    private static void learnContrariesBehind() {
        for (char kind : "ftsb".toCharArray()) {
            for (int number = 3; number <= 7; number += 2) {
                Filterbench x = new Filterbench();
                x.move(but(x, kind, number), 2);
                but(x, kind, 5);
                String what = "learn " + kind + number + " from 5";
                if (number == 5) {
                    C.refuses(what, ELEMENT, () -> x.learn(2));
                } else {
                    dueLearned(what, x, 2, kind, Math.min(number, 5), number > 5);
                }
            }
        }
        Filterbench more = new Filterbench();
        int moved = more.mail(1, 6, 0, 0, 5);
        more.deliver(moved);
        more.deliver(more.mail(1, 14, 0, 0, 5));
        more.move(moved, 1);
        dueLearned("learn by one receiver less", more, 1, 't', 3, true);
        Filterbench less = new Filterbench();
        moved = less.mail(1, 14, 0, 0, 5);
        less.deliver(moved);
        less.deliver(less.mail(1, 6, 0, 0, 5));
        less.move(moved, 1);
        dueLearned("learn by one receiver more", less, 1, 't', 3, false);
    }

    /** The first and the last number of each kind. */
    private static void learnEdgesOfNumbers() {
        char[] kinds = {'f', 't', 's', 'b'};
        int[] highs = {9, 9, 15, 15};
        for (int i = 0; i < kinds.length; i++) {
            Filterbench low = new Filterbench();
            int moved = but(low, kinds[i], 0);
            but(low, kinds[i], highs[i]);
            low.move(moved, 1);
            dueLearned("learn the first of " + kinds[i], low, 1, kinds[i], 0, false);
            Filterbench high = new Filterbench();
            moved = but(high, kinds[i], highs[i]);
            but(high, kinds[i], 0);
            high.move(moved, 1);
            dueLearned("learn not the first of " + kinds[i], high, 1, kinds[i], 0, true);
        }
        for (int i = 1; i < kinds.length; i++) {
            // One more receiver or word, the last one, on one side or the other.
            for (int side = 0; side < 2; side++) {
                Filterbench x = new Filterbench();
                int few = 1 << highs[i] - 1;
                int many = few | 1 << highs[i];
                for (int mail = 0; mail < 2; mail++) {
                    int bits = mail == side ? many : few;
                    x.deliver(x.mail(5, i == 1 ? bits : 1, i == 2 ? bits : 0, i == 3 ? bits : 0, 7));
                }
                x.move(0, 1);
                dueLearned("learn the last of " + kinds[i] + " " + side, x, 1, kinds[i], highs[i], side == 1);
            }
        }
        for (int day = 0; day < 7; day++) {
            Filterbench x = new Filterbench();
            for (int i = 0; i < 7; i++) {
                but(x, ' ', 0);
                x.pass(1);
            }
            x.move(day, 1);
            dueLearned("learn the weekday " + day, x, 1, 'd', day, false);
        }
    }

    /** "'z' with the size of a mail that was delivered and is not gone less 1". */
    private static void learnSizes() {
        int[][] pairs = {{1, 2}, {499, 500}, {998, 999}, {1, 999}};
        for (int[] pair : pairs) {
            Filterbench big = new Filterbench();
            Sorter.delivered(big, pair[0]);
            Sorter.delivered(big, pair[1]);
            big.move(1, 1);
            dueLearned("learn the size " + pair[1], big, 1, 'z', pair[1] - 1, false);
            Filterbench small = new Filterbench();
            Sorter.delivered(small, pair[0]);
            Sorter.delivered(small, pair[1]);
            small.move(0, 1);
            dueLearned("learn the size " + pair[0], small, 1, 'z', pair[1] - 1, true);
        }
        // By rising sizes, whatever the order in which the mails came: not over 19 is ahead of not over 29.
        Filterbench rising = new Filterbench();
        int[] sizes = {30, 20, 10, 20, 30};
        for (int size : sizes) {
            Sorter.delivered(rising, size);
        }
        rising.move(2, 1);
        dueLearned("learn the smallest of three", rising, 1, 'z', 19, true);
        rising.move(1, 1);
        rising.move(3, 1);
        dueLearned("learn the smaller two of three", rising, 1, 'z', 29, true);
        rising.move(2, 2);
        dueLearned("learn the middle one", rising, 1, 'z', 19, false, 'z', 29, true);
        dueLearned("learn the smallest of three again", rising, 2, 'z', 19, true);
        // All forty sizes, of which the last one is told apart by the last of the sizes.
        Filterbench forty = new Filterbench();
        for (int size = 40; size >= 1; size--) {
            Sorter.delivered(forty, size);
        }
        forty.move(0, 3);
        dueLearned("learn the greatest of forty", forty, 3, 'z', 39, false);
    }

    private static void learnSizesThatCount() {
        // A mail of the size 15 between 10 and 20: not over 14 would be ahead of not over 19.
        for (int state = 0; state < 3; state++) {
            Filterbench x = new Filterbench();
            int big = x.test('z', 14, 0);
            int bigger = x.test('z', 15, 0);
            Sorter.when(x, 0, x.test('&', big, not(x, bigger)), state == 1 ? 'x' : 'F', 1);
            Sorter.delivered(x, 10);
            Sorter.delivered(x, 20);
            int between = Sorter.mail(x, 15);
            if (state > 0) {
                x.deliver(between);
            }
            x.move(0, 1);
            String what = state == 0 ? "not delivered" : state == 1 ? "gone" : "delivered";
            dueLearned("learn beside a size that was " + what, x, 1, 'z', state == 2 ? 14 : 19, true);
        }
    }

    /** "The first one ...; otherwise the first pair of two". */
    private static void learnOneAheadOfPairs() {
        Filterbench x = new Filterbench();
        but(x, 'f', 4);
        but(x, 't', 4);
        x.pass(6);
        int moved = but(x, ' ', 0);
        x.move(moved, 1);
        dueLearned("learn one, the contrary of the first weekday, ahead of pairs", x, 1, 'd', 0, true);
        Filterbench last = new Filterbench();
        last.pass(6);
        int there = but(last, ' ', 0);
        last.pass(5);
        butTwo(last, 'f', 4, ' ', 0);
        last.pass(1);
        butTwo(last, 't', 4, ' ', 0);
        last.move(there, 1);
        // The others came on the weekdays 4 and 5, so that the weekday 6 is the last one of all tests.
        dueLearned("learn one, the last but one of all tests, ahead of pairs", last, 1, 'd', 6, false);
    }

    /** Each of a pair as it is, or as its contrary; the sender and the receiver have the numbers. */
    private static void learnPairs() {
        boolean[] ways = {false, true};
        for (boolean first : ways) {
            for (boolean second : ways) {
                int sender = first ? 7 : 3;
                int receiver = second ? 7 : 3;
                Filterbench x = new Filterbench();
                int moved = butTwo(x, 'f', sender, 't', receiver);
                butTwo(x, 'f', sender, 't', 5);
                butTwo(x, 'f', 5, 't', receiver);
                x.move(moved, 4);
                dueLearned("learn a pair " + first + " " + second, x, 4,
                    'f', first ? 5 : 3, first, 't', second ? 5 : 3, second);
            }
        }
    }

    /** "Pairs by their first one, then by their second one." */
    private static void learnPairsInOrder() {
        // Each of the others lacks a receiver, and a word of the subject or of the body.
        Filterbench x = new Filterbench();
        int moved = x.mail(5, 1 | 2, 1, 1, 500);
        x.deliver(moved);
        x.deliver(x.mail(5, 2, 0, 1, 500));
        x.deliver(x.mail(5, 1, 1, 0, 500));
        x.move(moved, 1);
        dueLearned("learn the first pair", x, 1, 't', 0, false, 't', 1, false);
        Filterbench later = new Filterbench();
        moved = later.mail(5, 3, 3, 1, 500);
        later.deliver(moved);
        later.deliver(later.mail(5, 3, 1, 0, 500));
        later.deliver(later.mail(5, 2, 3, 1, 500));
        later.move(moved, 1);
        dueLearned("learn the first one of the kind ahead, then the first second one", later, 1,
            't', 0, false, 's', 1, false);
        Filterbench two = new Filterbench();
        moved = two.mail(5, 1, 0, 0, 500);
        two.deliver(moved);
        two.deliver(two.mail(3, 1, 0, 0, 500));
        two.deliver(two.mail(4, 1, 0, 0, 499));
        two.deliver(two.mail(4, 1, 0, 0, 500));
        two.move(moved, 1);
        dueLearned("learn by the sender alone, ahead of two contraries", two, 1, 'f', 5, false);
        Filterbench both = new Filterbench();
        for (int sender = 5; sender <= 8; sender++) {
            both.deliver(both.mail(sender, 1, 0, 0, 500));
        }
        both.move(0, 1);
        both.move(2, 1);
        dueLearned("learn by two contraries", both, 1, 'f', 6, true, 'f', 8, true);
        both.move(3, 1);
        dueLearned("learn by one contrary", both, 1, 'f', 6, true);
    }

    /** The first and the last of all tests, and the first and the last of all pairs. */
    private static void learnEndsOfTheOrder() {
        Filterbench first = new Filterbench();
        int moved = butTwo(first, 'f', 0, 't', 3);
        butTwo(first, 'f', 0, 't', 5);
        butTwo(first, 'f', 5, 't', 3);
        first.move(moved, 1);
        dueLearned("learn a pair with the first of all tests", first, 1, 'f', 0, false, 't', 3, false);
        Filterbench contrary = new Filterbench();
        moved = butTwo(contrary, 'f', 7, 't', 3);
        butTwo(contrary, 'f', 7, 't', 5);
        butTwo(contrary, 'f', 0, 't', 3);
        contrary.move(moved, 1);
        dueLearned("learn a pair with the first contrary", contrary, 1, 'f', 0, true, 't', 3, false);
        Filterbench week = new Filterbench();
        for (int day = 0; day < 7; day++) {
            but(week, ' ', 0);
            week.pass(1);
        }
        for (int day = 0; day < 5; day++) {
            week.move(day, 1);
        }
        dueLearned("learn the last of all pairs", week, 1, 'd', 5, true, 'd', 6, true);
        week.move(5, 1);
        dueLearned("learn the last of all tests", week, 1, 'd', 6, true);
        week.move(6, 1);
        dueLearned("learn all weekdays", week, 1, 'f', 0, true);
    }

    /** "No test is found": three would be needed, or there is a like one. */
    private static void learnNoTest() {
        Filterbench x = new Filterbench();
        int moved = but(x, ' ', 0);
        x.move(moved, 1);
        dueLearned("learn from none", x, 1, 'f', 0, true);
        but(x, 'f', 4);
        dueLearned("learn from one", x, 1, 'f', 4, true);
        but(x, 't', 4);
        dueLearned("learn from two", x, 1, 'f', 4, true, 't', 4, true);
        int third = but(x, 's', 4);
        C.refuses("learn from three by two", ELEMENT, () -> x.learn(1));
        x.move(third, 1);
        dueLearned("learn the third one with it", x, 1, 'f', 4, true, 't', 4, true);
        int like = but(x, ' ', 0);
        C.refuses("learn from a like one", ELEMENT, () -> x.learn(1));
        x.move(like, 1);
        dueLearned("learn the like one with it", x, 1, 'f', 4, true, 't', 4, true);
    }

    /** "Moved by hand to a box, and were not delivered or moved to another one since". */
    private static void learnMovedSince() {
        Filterbench x = new Filterbench();
        Sorter.when(x, 0, x.test('a', 0, 0), 'm', 1);
        int mail = but(x, 'f', 3);
        but(x, ' ', 0);
        C.refuses("sorted there, not by hand", ELEMENT, () -> x.learn(1));
        x.move(mail, 1);
        dueLearned("moved by hand to the box it is in", x, 1, 'f', 3, false);
        x.move(mail, 1);
        dueLearned("moved twice", x, 1, 'f', 3, false);
        x.attempt(0, mail);
        dueLearned("tried since", x, 1, 'f', 3, false);
        x.move(mail, 2);
        C.refuses("moved to another one since", ELEMENT, () -> x.learn(1));
        dueLearned("moved to another one", x, 2, 'f', 3, false);
        x.move(mail, 1);
        C.refuses("moved back from it", ELEMENT, () -> x.learn(2));
        dueLearned("moved back", x, 1, 'f', 3, false);
        x.deliver(mail);
        C.due("delivered since, to the same box", 1, () -> x.boxOf(mail));
        C.refuses("delivered since", ELEMENT, () -> x.learn(1));
        x.move(mail, 0);
        dueLearned("moved to box 0", x, 0, 'f', 3, false);
        x.clear(0);
        x.deliver(mail);
        C.refuses("kept in box 0", ELEMENT, () -> x.learn(0));
    }

    /** "From all others that were delivered and are not gone". */
    private static void learnOthers() {
        Filterbench x = new Filterbench();
        int moved = but(x, 'f', 3);
        but(x, ' ', 0);
        x.move(moved, 1);
        int like = x.mail(3, 32, 32, 32, 500);
        dueLearned("a like one that was not delivered", x, 1, 'f', 3, false);
        x.deliver(like);
        C.refuses("a like one that was delivered", ELEMENT, () -> x.learn(1));
        x.move(like, 2);
        C.refuses("a like one that was moved to another box", ELEMENT, () -> x.learn(1));
        C.refuses("a like one that was moved to another box, there", ELEMENT, () -> x.learn(2));
        Sorter.when(x, 0, x.test('a', 0, 0), 'x', 0);
        x.deliver(like);
        dueLearned("a like one that is gone", x, 1, 'f', 3, false);
        C.refuses("gone since it was moved", ELEMENT, () -> x.learn(2));
        x.clear(0);
        x.deliver(like);
        C.refuses("a like one that is not gone any more", ELEMENT, () -> x.learn(1));
        x.move(like, 1);
        dueLearned("a like one that was moved, too", x, 1, 'f', 3, false);
    }

    /** With no other one, the first test that holds for all. */
    private static void learnAllMoved() {
        Filterbench zero = new Filterbench();
        zero.move(but(zero, 'f', 0), 1);
        dueLearned("all moved: the first test", zero, 1, 'f', 0, false);
        Filterbench x = new Filterbench();
        for (int sender = 0; sender < 10; sender++) {
            x.move(but(x, 'f', sender), 1);
            if (sender == 0) {
                dueLearned("all moved: from 0", x, 1, 'f', 0, false);
            } else if (sender < 9) {
                dueLearned("all moved: from 0 to " + sender, x, 1, 'f', sender + 1, true);
            } else {
                dueLearned("all moved: from anybody", x, 1, 't', 0, true);
            }
        }
        for (int least : new int[] {1, 2, 990}) {
            Filterbench all = new Filterbench();
            for (int i = 9; i >= 0; i--) {
                int words = i % 2 == 0 ? 65535 : 0;
                all.deliver(all.mail(i, 1 << i, words, 65535 - words, least + i));
                all.move(9 - i, 1);
            }
            dueLearned("all moved: anything, of the size " + least, all, 1, 'z', least - 1, false);
        }
    }

    /** "If there would be more than 60 tests": for one to five new ones. */
    private static void learnRoom() {
        for (int needed = 1; needed <= 5; needed++) {
            for (int room = needed - 1; room <= needed + 1; room++) {
                Filterbench x = needing(needed);
                int before = 60 - room;
                for (int i = 0; i < before; i++) {
                    x.test('a', 0, 0);
                }
                String what = needed + " tests, room for " + room;
                int last = before + needed - 1;
                if (room < needed) {
                    C.refuses(what, IllegalStateException.class, () -> x.learn(1));
                    for (int i = before; i < 60; i++) {
                        int next = i;
                        C.due(what + ": none was made", next, () -> x.test('a', 0, 0));
                    }
                } else {
                    C.due(what, last, () -> x.learn(1));
                    C.due(what + ": holds", true, () -> x.holds(last, 0) && !x.holds(last, 1) && !x.holds(last, 2));
                }
            }
        }
    }

    /** A sorter in which the mail 0 is told apart from 1 and 2 by so many tests. */
    private static Filterbench needing(int tests) {
        Filterbench x = new Filterbench();
        boolean isPair = tests > 2;
        int sender = tests == 2 || tests == 5 ? 7 : 3;
        int receiver = tests > 3 ? 7 : 3;
        butTwo(x, 'f', sender, 't', receiver);
        butTwo(x, 'f', isPair ? sender : 5, 't', isPair ? 5 : receiver);
        butTwo(x, 'f', 5, 't', receiver);
        x.move(0, 1);
        return x;
    }

    // ---- "Each rule that is done in a try of this script is none that is shadowed."

    private static void trueWithinAside() {
        // The first rule never holds; the second one of script 1 is shadowed, and that of script 0 is done.
        Filterbench x = new Filterbench();
        int always = x.test('a', 0, 0);
        int never = not(x, always);
        Sorter.when(x, 0, never, 'F', 1);
        Sorter.when(x, 0, always, 'F', 2);
        Sorter.when(x, 1, always, 's', 0);
        Sorter.when(x, 1, always, 'F', 3);
        Sorter.mail(x);
        x.difference(0, 0);
        C.due("true: a shadowed rule of the number of one that is done", true, x::isTrue);
        C.due("true: the first rule is shadowed", true, () -> x.isShadowed(0, 0));
        C.due("true: the second rule of script 1 is shadowed", true, () -> x.isShadowed(1, 1));
        // Within script 2, the second rule of script 0 is done, while its own second rule is shadowed.
        Sorter.when(x, 2, always, 'i', 0, 's', 0);
        Sorter.when(x, 2, always, 'F', 4);
        x.attempt(2, 0);
        C.dueDone("true: 'i' aside", x, 2000, 10, 2001);
        C.due("true: the second rule of script 2 is shadowed", true, () -> x.isShadowed(2, 1));
        C.due("true: 'i' aside", true, x::isTrue);
    }

    private static void isTrue() {
        Filterbench x = new Filterbench();
        C.due("true: nothing", true, x::isTrue);
        int always = x.test('a', 0, 0);
        int flag = x.test('k', 3, 0);
        Sorter.when(x, 0, flag, 's', 0);
        Sorter.when(x, 0, always, 'F', 3, 'i', 0, 'U', 3, 'i', 1);
        Sorter.when(x, 0, flag, 'm', 1);
        Sorter.when(x, 1, always, 'S', 0);
        Sorter.when(x, 1, always, 'm', 7);
        C.due("true: rules, no mails", true, x::isTrue);
        Sorter.mail(x);
        C.due("true: a rule that is shadowed", true, () -> x.isShadowed(1, 1));
        C.due("true: by a try of its own it is not done", true, x::isTrue);
        x.deliver(0);
        C.due("true: behind a delivery", true, x::isTrue);
        C.due("true: the last delivery stays", 6, x::done);
        for (int sender = 0; sender < 10; sender++) {
            x.mail(sender, 1, 0, 0, 999);
            Sorter.when(x, 3, x.test('f', sender, 0), 's', 0);
        }
        Sorter.when(x, 3, always, 'm', 7);
        C.due("true: the last of all senders", false, () -> x.isShadowed(3, 9));
        C.due("true: behind all senders", true, () -> x.isShadowed(3, 10));
        C.due("true: for eleven mails", true, x::isTrue);
        for (int mail = 11; mail < 40; mail++) {
            Sorter.mail(x);
        }
        Sorter.when(x, 3, always, 'm', 6);
        C.due("true: for forty mails and twelve rules", true, x::isTrue);
    }
}
