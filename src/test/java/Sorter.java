/** Builds sorters for the tests. */
final class Sorter {
    private Sorter() {
    }

    /** A sorter with the test 0, always, and one rule of script 0 with these actions, each a kind and a number. */
    static Filterbench with(Object... actions) {
        Filterbench x = new Filterbench();
        x.test('a', 0, 0);
        always(x, 0, actions);
        return x;
    }

    /** Adds a rule that is always done; its test is the test 0. */
    static int always(Filterbench x, int script, Object... actions) {
        return when(x, script, 0, actions);
    }

    static int when(Filterbench x, int script, int test, Object... actions) {
        int rule = x.rule(script, test);
        for (int i = 0; i < actions.length; i += 2) {
            x.action(script, rule, (Character) actions[i], (Integer) actions[i + 1]);
        }
        return rule;
    }

    /** A mail of the size 100 from person 1 to person 0. */
    static int mail(Filterbench x) {
        return mail(x, 100);
    }

    static int mail(Filterbench x, int size) {
        return x.mail(1, 1, 0, 0, size);
    }

    static int delivered(Filterbench x, int size) {
        int mail = mail(x, size);
        x.deliver(mail);
        return mail;
    }

    /** Ors or ands of tests that stand one behind the other, from the first to the last. */
    static int joined(Filterbench x, char kind, int first, int last) {
        int test = first;
        for (int i = first + 1; i <= last; i++) {
            test = x.test(kind, test, i);
        }
        return test;
    }
}
