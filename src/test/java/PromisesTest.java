import java.util.NoSuchElementException;

/** For each promise: ordinary inputs, the edges that the document names, and wrong inputs. */
public final class PromisesTest {
    private static final Class<IndexOutOfBoundsException> INDEX = IndexOutOfBoundsException.class;
    private static final Class<IllegalArgumentException> ARGUMENT = IllegalArgumentException.class;
    private static final Class<IllegalStateException> STATE = IllegalStateException.class;
    private static final Class<NoSuchElementException> ELEMENT = NoSuchElementException.class;
    private static final Class<ArithmeticException> ARITHMETIC = ArithmeticException.class;

    private static final Check C = new Check();

    public static void main(String[] args) {
        newObject();
        mail();
        pass();
        setQuota();
        inBox();
        boxOf();
        hasFlag();
        move();
        test();
        holds();
        rule();
        action();
        clear();
        reorder();
        deliver();
        exclusions();
        nesting();
        limit();
        quotas();
        replyDays();
        forwards();
        flagsNow();
        attempt();
        doneAndDoneAt();
        clashesAndFaults();
        flags();
        replies();
        forwarded();
        difference();
        isShadowed();
        areSame();
        areSameOfNumbers();
        manyWords();
        learn();
        learnOrder();
        sum();
        goneShare();
        meanSize();
        isTrue();
        C.end();
    }

    // ---- promises

    private static void newObject() {
        Filterbench x = new Filterbench();
        C.refuses("new: boxOf(0)", INDEX, () -> x.boxOf(0));
        C.refuses("new: rule(0, 0)", INDEX, () -> x.rule(0, 0));
        C.refuses("new: isShadowed(0, 0)", INDEX, () -> x.isShadowed(0, 0));
        C.due("new: inBox(0)", 0, () -> x.inBox(0));
        C.due("new: done", 0, x::done);
        C.due("new: clashes", 0, x::clashes);
        C.due("new: flags", 0, x::flags);
        C.due("new: faults", 0, () -> x.faults('i') + x.faults('w') + x.faults('q'));
        C.due("new: replies(9)", 0, () -> x.replies(9));
        C.due("new: forwarded(0)", 0, () -> x.forwarded(0));
        C.due("new: difference(0, 3)", 0, () -> x.difference(0, 3));
        C.due("new: sum", 0L, x::sum);
        C.due("new: isTrue", true, x::isTrue);
        C.due("new: clear(3)", 0, () -> x.clear(3));
        C.due("new: the day is 0", 1, () -> x.pass(1));
    }

    private static void mail() {
        Filterbench x = new Filterbench();
        C.due("mail: least numbers", 0, () -> x.mail(0, 1, 0, 0, 1));
        C.due("mail: greatest numbers", 1, () -> x.mail(9, 1023, 65535, 65535, 999));
        int[][] wrong = {{-1, 1, 0, 0, 1}, {10, 1, 0, 0, 1}, {0, 0, 0, 0, 1}, {0, 1024, 0, 0, 1}, {0, -1, 0, 0, 1},
            {0, 1, -1, 0, 1}, {0, 1, 65536, 0, 1}, {0, 1, 0, -1, 1}, {0, 1, 0, 65536, 1}, {0, 1, 0, 0, 0},
            {0, 1, 0, 0, 1000}, {0, 1, 0, 0, Integer.MIN_VALUE}, {Integer.MAX_VALUE, 1, 0, 0, 1}};
        for (int[] w : wrong) {
            C.refuses("mail: out of range", ARGUMENT, () -> x.mail(w[0], w[1], w[2], w[3], w[4]));
        }
        for (int i = 2; i < 40; i++) {
            int number = i;
            C.due("mail: " + i, number, () -> Sorter.mail(x));
        }
        C.refuses("mail: the 41st", STATE, () -> Sorter.mail(x));
        C.refuses("mail: the 41st, out of range", ARGUMENT, () -> x.mail(0, 1, 0, 0, 0));
        C.due("mail: sum of 40", 1L + 999 + 38 * 100, x::sum);
    }

    private static void pass() {
        Filterbench x = new Filterbench();
        C.due("pass(1)", 1, () -> x.pass(1));
        C.due("pass(100)", 101, () -> x.pass(100));
        C.refuses("pass(0)", ARGUMENT, () -> x.pass(0));
        C.refuses("pass(101)", ARGUMENT, () -> x.pass(101));
        C.refuses("pass(-1)", ARGUMENT, () -> x.pass(-1));
        C.due("pass(4)", 105, () -> x.pass(4));
        int weekday0 = x.test('d', 0, 0);
        int weekday1 = x.test('d', 1, 0);
        int day105 = Sorter.mail(x);
        x.pass(1);
        int day106 = Sorter.mail(x);
        C.due("pass: the 105th day", true, () -> x.holds(weekday0, day105));
        C.due("pass: the 106th day", false, () -> x.holds(weekday0, day106));
        C.due("pass: the 106th day is one behind", true, () -> x.holds(weekday1, day106));
    }

    private static void setQuota() {
        Filterbench x = new Filterbench();
        for (int i = 1; i < 8; i++) {
            int box = i;
            C.due("setQuota: first of " + box, 2000, () -> x.setQuota(box, box));
        }
        C.due("setQuota(3, 0)", 3, () -> x.setQuota(3, 0));
        C.due("setQuota(3, 9999)", 0, () -> x.setQuota(3, 9999));
        C.refuses("setQuota(0, 5)", INDEX, () -> x.setQuota(0, 5));
        C.refuses("setQuota(8, 5)", INDEX, () -> x.setQuota(8, 5));
        C.refuses("setQuota(-1, 5)", INDEX, () -> x.setQuota(-1, 5));
        C.refuses("setQuota(3, -1)", ARGUMENT, () -> x.setQuota(3, -1));
        C.refuses("setQuota(3, 10000)", ARGUMENT, () -> x.setQuota(3, 10000));
        C.refuses("setQuota(0, 10000)", INDEX, () -> x.setQuota(0, 10000));
        C.due("setQuota: nothing changed", 9999, () -> x.setQuota(3, 1));
    }

    private static void inBox() {
        Filterbench x = Sorter.with('m', 2, 'c', 2, 'c', 0, 'c', 2);
        int m = Sorter.mail(x);
        C.due("inBox: not delivered", 0, () -> x.inBox(2));
        x.deliver(m);
        C.due("inBox: the mail and two copies", 300, () -> x.inBox(2));
        C.due("inBox: a copy in 0", 100, () -> x.inBox(0));
        x.deliver(m);
        C.due("inBox: copies stay", 500, () -> x.inBox(2));
        x.clear(0);
        Sorter.always(x, 0, 'x', 0);
        x.deliver(m);
        C.due("inBox: a gone mail", 400, () -> x.inBox(2));
        C.due("inBox(7)", 0, () -> x.inBox(7));
        C.refuses("inBox(8)", INDEX, () -> x.inBox(8));
        C.refuses("inBox(-1)", INDEX, () -> x.inBox(-1));
    }

    private static void boxOf() {
        Filterbench x = Sorter.with('m', 7);
        int m = Sorter.mail(x);
        C.refuses("boxOf: not delivered", ELEMENT, () -> x.boxOf(m));
        x.attempt(0, m);
        C.refuses("boxOf: tried", ELEMENT, () -> x.boxOf(m));
        x.deliver(m);
        C.due("boxOf", 7, () -> x.boxOf(m));
        x.clear(0);
        Sorter.always(x, 0, 'r', 0);
        x.deliver(m);
        C.refuses("boxOf: sent back", ELEMENT, () -> x.boxOf(m));
        x.clear(0);
        x.deliver(m);
        C.due("boxOf: back again", 0, () -> x.boxOf(m));
        C.refuses("boxOf(1)", INDEX, () -> x.boxOf(1));
        C.refuses("boxOf(-1)", INDEX, () -> x.boxOf(-1));
    }

    private static void hasFlag() {
        Filterbench x = Sorter.with('F', 0, 'F', 7, 'F', 3, 'U', 3, 'x', 0);
        int m = Sorter.mail(x);
        C.due("hasFlag: not delivered", false, () -> x.hasFlag(m, 0));
        x.attempt(0, m);
        C.due("hasFlag: tried", false, () -> x.hasFlag(m, 0));
        x.deliver(m);
        C.due("hasFlag(0), gone", true, () -> x.hasFlag(m, 0));
        C.due("hasFlag(7)", true, () -> x.hasFlag(m, 7));
        C.due("hasFlag(3), taken away", false, () -> x.hasFlag(m, 3));
        x.clear(0);
        x.deliver(m);
        C.due("hasFlag: none at first", false, () -> x.hasFlag(m, 0));
        C.refuses("hasFlag(1, 0)", INDEX, () -> x.hasFlag(1, 0));
        C.refuses("hasFlag(-1, 0)", INDEX, () -> x.hasFlag(-1, 0));
        C.refuses("hasFlag(0, 8)", INDEX, () -> x.hasFlag(0, 8));
        C.refuses("hasFlag(0, -1)", INDEX, () -> x.hasFlag(0, -1));
    }

    private static void move() {
        Filterbench x = new Filterbench();
        x.test('a', 0, 0);
        int m = Sorter.mail(x);
        C.refuses("move: not delivered", ELEMENT, () -> x.move(m, 1));
        C.refuses("move: not delivered, no such box", INDEX, () -> x.move(m, 8));
        x.deliver(m);
        x.setQuota(1, 0);
        C.due("move: whatever the quota", 0, () -> x.move(m, 1));
        C.due("move: in the box", 100, () -> x.inBox(1));
        C.due("move: to 0", 1, () -> x.move(m, 0));
        C.due("move: left the box", 0, () -> x.inBox(1));
        C.due("move: to the same", 0, () -> x.move(m, 0));
        C.refuses("move(0, 8)", INDEX, () -> x.move(m, 8));
        C.refuses("move(0, -1)", INDEX, () -> x.move(m, -1));
        C.refuses("move(1, 0)", INDEX, () -> x.move(1, 0));
        Sorter.always(x, 0, 'x', 0);
        x.deliver(m);
        C.refuses("move: gone", ELEMENT, () -> x.move(m, 1));
    }

    private static void test() {
        Filterbench x = new Filterbench();
        C.refuses("test('!', 0): no part yet", INDEX, () -> x.test('!', 0, 0));
        C.due("test('a'): numbers without meaning", 0, () -> x.test('a', -5, 99999));
        Object[][] ranges = {{'f', 0, 9}, {'t', 0, 9}, {'s', 0, 15}, {'b', 0, 15}, {'z', 0, 999}, {'d', 0, 6},
            {'n', 1, 10}, {'k', 0, 7}};
        int count = 1;
        for (Object[] r : ranges) {
            char kind = (Character) r[0];
            int low = (Integer) r[1];
            int high = (Integer) r[2];
            int next = count;
            C.due("test: least of " + kind, next, () -> x.test(kind, low, -1));
            C.due("test: greatest of " + kind, next + 1, () -> x.test(kind, high, 1000));
            C.refuses("test: below least of " + kind, ARGUMENT, () -> x.test(kind, low - 1, 0));
            C.refuses("test: above greatest of " + kind, ARGUMENT, () -> x.test(kind, high + 1, 0));
            count += 2;
        }
        for (char kind : new char[] {'q', 'A', 'F', 'm', ' ', (char) 0, (char) 65535}) {
            C.refuses("test: no such kind", ARGUMENT, () -> x.test(kind, 0, 0));
        }
        int now = count;
        C.due("test('!')", now, () -> x.test('!', 0, -7));
        C.refuses("test('!'): itself", INDEX, () -> x.test('!', now + 1, 0));
        C.refuses("test('!', -1)", INDEX, () -> x.test('!', -1, 0));
        C.refuses("test('&'): first part", INDEX, () -> x.test('&', now + 1, 0));
        C.refuses("test('&'): second part", INDEX, () -> x.test('&', 0, now + 1));
        C.refuses("test('|'): second part", INDEX, () -> x.test('|', 0, -1));
        C.due("test('&')", now + 1, () -> x.test('&', now, 0));
        C.due("test('|')", now + 2, () -> x.test('|', now + 1, now + 1));
        for (int i = now + 3; i < 60; i++) {
            x.test('a', 0, 0);
        }
        C.refuses("test: the 61st", STATE, () -> x.test('a', 0, 0));
        C.refuses("test: the 61st, no part", INDEX, () -> x.test('!', 60, 0));
        C.refuses("test: the 61st, no such kind", ARGUMENT, () -> x.test('q', 0, 0));
        C.refuses("test: the 61st, out of range", ARGUMENT, () -> x.test('n', 0, 0));
    }

    private static void holds() {
        Filterbench x = Sorter.with('F', 5);
        x.pass(9);
        int m = x.mail(3, 6, 1 << 15, 1 | 1 << 8, 500);
        Object[][] cases = {{'a', 0, true}, {'f', 3, true}, {'f', 1, false}, {'t', 1, true}, {'t', 2, true},
            {'t', 0, false}, {'t', 3, false}, {'s', 15, true}, {'s', 0, false}, {'b', 0, true}, {'b', 8, true},
            {'b', 15, false}, {'z', 499, true}, {'z', 500, false}, {'z', 0, true}, {'z', 999, false}, {'d', 2, true},
            {'d', 1, false}, {'n', 1, true}, {'n', 2, true}, {'n', 3, false}, {'k', 5, false}};
        for (Object[] c : cases) {
            int t = x.test((Character) c[0], (Integer) c[1], 0);
            C.due("holds: " + c[0] + c[1], c[2], () -> x.holds(t, m));
        }
        int yes = 1;
        int no = x.test('!', yes, 0);
        boolean[] values = {true, false};
        for (boolean p : values) {
            for (boolean q : values) {
                int and = x.test('&', p ? yes : no, q ? yes : no);
                int or = x.test('|', p ? yes : no, q ? yes : no);
                C.due("holds: " + p + " & " + q, p && q, () -> x.holds(and, m));
                C.due("holds: " + p + " | " + q, p || q, () -> x.holds(or, m));
            }
        }
        int flag = x.test('k', 5, 0);
        x.deliver(m);
        C.due("holds: the flag that it has", true, () -> x.holds(flag, m));
        x.clear(0);
        x.attempt(0, m);
        C.due("holds: not by a try", true, () -> x.holds(flag, m));
        C.refuses("holds: no such test", INDEX, () -> x.holds(60, m));
        C.refuses("holds(-1, 0)", INDEX, () -> x.holds(-1, m));
        C.refuses("holds(0, 1)", INDEX, () -> x.holds(0, 1));
        C.refuses("holds(0, -1)", INDEX, () -> x.holds(0, -1));
        Filterbench deep = new Filterbench();
        deep.test('f', 1, 0);
        for (int i = 1; i < 60; i++) {
            deep.test(i % 2 == 0 ? '&' : '|', i - 1, i - 1);
        }
        Sorter.mail(deep);
        C.due("holds: a test with a part 2 to the power of 59 times over", true, () -> deep.holds(59, 0));
    }

    private static void rule() {
        Filterbench x = new Filterbench();
        x.test('a', 0, 0);
        for (int i = 0; i < 12; i++) {
            int number = i;
            C.due("rule " + i, number, () -> x.rule(3, 0));
        }
        C.refuses("rule: the 13th", STATE, () -> x.rule(3, 0));
        C.refuses("rule: the 13th, no such test", INDEX, () -> x.rule(3, 1));
        C.due("rule: of another script", 0, () -> x.rule(0, 0));
        C.refuses("rule(4, 0)", INDEX, () -> x.rule(4, 0));
        C.refuses("rule(-1, 0)", INDEX, () -> x.rule(-1, 0));
        C.refuses("rule(0, 1)", INDEX, () -> x.rule(0, 1));
        C.refuses("rule(0, -1)", INDEX, () -> x.rule(0, -1));
        Sorter.mail(x);
        C.due("rule: without actions", 0, () -> x.attempt(3, 0));
        C.dueDone("rule: without actions", x);
        Filterbench again = Sorter.with('m', 2, 'F', 1);
        Sorter.mail(again);
        again.clear(0);
        again.rule(0, 0);
        C.due("rule: behind clear, without actions", 0, () -> again.attempt(0, 0));
        C.due("rule: behind clear, the first action", 1, () -> again.action(0, 0, 'k', 0));
    }

    private static void action() {
        Filterbench x = new Filterbench();
        x.test('a', 0, 0);
        Object[][] ranges = {{'m', 0, 7}, {'c', 0, 7}, {'w', 0, 9}, {'F', 0, 7}, {'U', 0, 7}, {'v', 1, 30}, {'i', 0, 3}};
        for (Object[] r : ranges) {
            char kind = (Character) r[0];
            int low = (Integer) r[1];
            int high = (Integer) r[2];
            int rule = x.rule(1, 0);
            C.refuses("action: below least of " + kind, ARGUMENT, () -> x.action(1, rule, kind, low - 1));
            C.refuses("action: above greatest of " + kind, ARGUMENT, () -> x.action(1, rule, kind, high + 1));
            C.due("action: least of " + kind, 1, () -> x.action(1, rule, kind, low));
            C.due("action: greatest of " + kind, 2, () -> x.action(1, rule, kind, high));
        }
        int rule = x.rule(0, 0);
        C.refuses("action: no such kind", ARGUMENT, () -> x.action(0, rule, 'q', 0));
        C.refuses("action: a test's kind", ARGUMENT, () -> x.action(0, rule, 'f', 0));
        C.refuses("action: no kind at all", ARGUMENT, () -> x.action(0, rule, (char) 0, 0));
        int count = 0;
        for (char kind : "kxrsS".toCharArray()) {
            count++;
            int due = count;
            C.due("action: number without meaning of " + kind, due, () -> x.action(0, rule, kind, -99));
        }
        C.refuses("action: the 6th", STATE, () -> x.action(0, rule, 'k', 0));
        C.refuses("action: the 6th, out of range", ARGUMENT, () -> x.action(0, rule, 'm', 8));
        C.refuses("action: the 6th, no such kind", ARGUMENT, () -> x.action(0, rule, 'q', 8));
        C.refuses("action(4, 0)", INDEX, () -> x.action(4, 0, 'q', 0));
        C.refuses("action(-1, 0)", INDEX, () -> x.action(-1, 0, 'k', 0));
        C.refuses("action(0, 1)", INDEX, () -> x.action(0, 1, 'q', 0));
        C.refuses("action(0, -1)", INDEX, () -> x.action(0, -1, 'k', 0));
    }

    private static void clear() {
        Filterbench x = Sorter.with('m', 4);
        Sorter.always(x, 0, 'F', 1);
        Sorter.always(x, 2, 'k', 0);
        int m = Sorter.mail(x);
        C.due("clear(0)", 2, () -> x.clear(0));
        C.due("clear(0) once more", 0, () -> x.clear(0));
        C.due("clear: no rules", 0, () -> x.attempt(0, m));
        C.due("clear: no flags", 0, x::flags);
        C.refuses("clear: no rule 0", INDEX, () -> x.action(0, 0, 'k', 0));
        C.due("clear(2)", 1, () -> x.clear(2));
        C.refuses("clear(4)", INDEX, () -> x.clear(4));
        C.refuses("clear(-1)", INDEX, () -> x.clear(-1));
    }

    private static void reorder() {
        Filterbench y = new Filterbench();
        y.test('a', 0, 0);
        int m = Sorter.mail(y);
        for (int i = 0; i < 4; i++) {
            Sorter.always(y, 1, 'm', i + 1);
        }
        C.due("reorder: first", 1, () -> y.attempt(1, m));
        C.due("reorder(1, 2, 0)", 4, () -> y.reorder(1, 2, 0));
        C.due("reorder: 3 1 2 4", 3, () -> y.attempt(1, m));
        C.due("reorder(1, 0, 3)", 4, () -> y.reorder(1, 0, 3));
        C.due("reorder: 1 2 4 3", 1, () -> y.attempt(1, m));
        C.due("reorder(1, 1, 0)", 4, () -> y.reorder(1, 1, 0));
        C.due("reorder: 2 1 4 3", 2, () -> y.attempt(1, m));
        C.due("reorder(1, 2, 0)", 4, () -> y.reorder(1, 2, 0));
        C.due("reorder: 4 2 1 3", 4, () -> y.attempt(1, m));
        C.due("reorder(1, 0, 0)", 4, () -> y.reorder(1, 0, 0));
        C.due("reorder: the same", 4, () -> y.attempt(1, m));
        C.due("reorder(1, 3, 0)", 4, () -> y.reorder(1, 3, 0));
        C.due("reorder: 3 4 2 1", 3, () -> y.attempt(1, m));
        C.refuses("reorder(4, 0, 0)", INDEX, () -> y.reorder(4, 0, 0));
        C.refuses("reorder(-1, 0, 0)", INDEX, () -> y.reorder(-1, 0, 0));
        C.refuses("reorder(1, 4, 0)", INDEX, () -> y.reorder(1, 4, 0));
        C.refuses("reorder(1, -1, 0)", INDEX, () -> y.reorder(1, -1, 0));
        C.refuses("reorder(1, 0, 4)", INDEX, () -> y.reorder(1, 0, 4));
        C.refuses("reorder(1, 0, -1)", INDEX, () -> y.reorder(1, 0, -1));
        C.refuses("reorder(0, 0, 0): no rules", INDEX, () -> y.reorder(0, 0, 0));
    }

    private static void deliver() {
        Filterbench x = new Filterbench();
        x.test('a', 0, 0);
        int m = Sorter.mail(x);
        C.due("deliver: without rules", 0, () -> x.deliver(m));
        Object[][] outcomes = {{'m', 5, 5}, {'m', 0, 0}, {'k', 0, 0}, {'x', 0, 8}, {'r', 0, 9}};
        for (Object[] o : outcomes) {
            x.clear(0);
            Sorter.always(x, 0, o[0], o[1]);
            C.due("deliver: " + o[0] + o[1], o[2], () -> x.deliver(m));
            C.dueDone("deliver: " + o[0] + o[1], x, 0);
        }
        C.refuses("deliver(1)", INDEX, () -> x.deliver(1));
        C.refuses("deliver(-1)", INDEX, () -> x.deliver(-1));
        Filterbench moved = Sorter.with('m', 1);
        int a = Sorter.mail(moved);
        moved.deliver(a);
        moved.clear(0);
        moved.deliver(a);
        C.due("deliver: taken out of its box", 0, () -> moved.inBox(1));
        C.due("deliver: into another one", 100, () -> moved.inBox(0));
    }

    private static void exclusions() {
        String four = "mkxr";
        int[] outcomes = {1, 0, 8, 9};
        for (int i = 0; i < 4; i++) {
            for (int j = 0; j < 4; j++) {
                Filterbench x = Sorter.with(four.charAt(i), 1, four.charAt(j), 2);
                Sorter.mail(x);
                String what = "excludes: " + four.charAt(i) + four.charAt(j);
                int outcome = outcomes[i];
                C.due(what, outcome, () -> x.deliver(0));
                C.due(what + " clashes", 1, x::clashes);
                C.dueDone(what, x, 0);
            }
            for (char other : "cwv".toCharArray()) {
                Filterbench ahead = Sorter.with(four.charAt(i), 1, other, 3);
                Sorter.mail(ahead);
                boolean isBack = four.charAt(i) == 'r';
                int outcome = outcomes[i];
                C.due("excludes: " + four.charAt(i) + other, outcome, () -> ahead.deliver(0));
                C.due("excludes: " + four.charAt(i) + other + " clashes", isBack ? 1 : 0, ahead::clashes);
                C.due("excludes: " + four.charAt(i) + other + " done", isBack ? 1 : 2, ahead::done);
                Filterbench behind = Sorter.with(other, 3, four.charAt(i), 1);
                Sorter.mail(behind);
                C.due("excludes: " + other + four.charAt(i), isBack ? 0 : outcome, () -> behind.deliver(0));
                C.due("excludes: " + other + four.charAt(i) + " clashes", isBack ? 1 : 0, behind::clashes);
            }
        }
        Filterbench notDone = Sorter.with('w', 1, 'r', 0);
        Sorter.mail(notDone);
        C.due("excludes: 'r' behind a 'w' with a fault", 9, () -> notDone.deliver(0));
        Filterbench clashed = Sorter.with('v', 1, 'r', 0, 'c', 1, 'm', 2);
        Sorter.mail(clashed);
        C.due("excludes: an 'r' that was not done", 2, () -> clashed.deliver(0));
        C.dueDone("excludes: an 'r' that was not done", clashed, 0, 2, 3);
        Filterbench copy = Sorter.with('x', 0, 'c', 1, 'F', 2, 'r', 0);
        Sorter.mail(copy);
        C.due("excludes: 'c' behind 'x'", 8, () -> copy.deliver(0));
        C.due("excludes: one clash of an 'r' behind both", 1, copy::clashes);
        C.due("excludes: the copy of a gone mail", 100, () -> copy.inBox(1));
        Filterbench first = Sorter.with('r', 0, 'c', 1, 'w', 1);
        Sorter.mail(first);
        first.setQuota(1, 0);
        first.deliver(0);
        C.due("excludes: a clash is no fault", 2, first::clashes);
        C.due("excludes: no fault of quota", 0, () -> first.faults('q'));
        C.due("excludes: no fault of forwarding", 0, () -> first.faults('w'));
    }

    private static void nesting() {
        Filterbench x = Sorter.with('i', 0, 'F', 1);
        Sorter.mail(x);
        x.deliver(0);
        C.dueDone("nesting: itself", x, 0, 0, 0, 0, 1, 1, 1, 1, 1);
        C.due("nesting: itself, faults", 1, () -> x.faults('i'));
        Filterbench chain = Sorter.with('i', 1, 'm', 1);
        Sorter.always(chain, 1, 'i', 2, 'F', 1);
        Sorter.always(chain, 2, 'i', 3, 's', 0, 'F', 2);
        Sorter.always(chain, 2, 'F', 3);
        Sorter.always(chain, 3, 'F', 4);
        Sorter.mail(chain);
        C.due("nesting: a chain", 1, () -> chain.deliver(0));
        C.dueDone("nesting: a chain", chain, 0, 1000, 2000, 3000, 2001, 1001, 1);
        C.due("nesting: a chain's flags", 1 << 4 | 1 << 1, chain::flags);
        Filterbench all = Sorter.with('i', 1, 'm', 1);
        Sorter.always(all, 0, 'm', 2);
        Sorter.always(all, 1, 'S', 0, 'F', 1);
        Sorter.mail(all);
        C.due("nesting: 'S' ends all", 0, () -> all.deliver(0));
        C.dueDone("nesting: 'S' ends all", all, 0, 1000);
        Filterbench one = Sorter.with('s', 0, 'F', 1);
        Sorter.always(one, 0, 'F', 2);
        Sorter.mail(one);
        one.deliver(0);
        C.dueDone("nesting: 's' ends the rule and the script", one, 0);
    }

    private static void limit() {
        // Script 0 does itself: 1 + 3 + 9 + 27 + 81 times, so that 'i' alone is done 120 times.
        Filterbench x = Sorter.with('i', 0, 'F', 1, 'i', 0, 'F', 2, 'i', 0);
        Sorter.always(x, 0, 'm', 3);
        Sorter.mail(x);
        C.due("limit: the outcome", 3, () -> x.deliver(0));
        C.due("limit: done", 200, x::done);
        C.refuses("limit: doneAt(200)", INDEX, () -> x.doneAt(200));
        Filterbench flags = new Filterbench();
        flags.test('a', 0, 0);
        for (int i = 0; i < 4; i++) {
            for (int r = 0; r < 10; r++) {
                Sorter.always(flags, i, 'F', 1, 'F', 2, 'F', 3, 'F', 4);
            }
        }
        for (int i = 0; i < 3; i++) {
            Sorter.always(flags, i, 'i', i + 1);
        }
        Sorter.mail(flags);
        flags.deliver(0);
        C.due("limit: 163 are all done", 163, flags::done);
        flags.clear(0);
        Sorter.always(flags, 0, 'i', 1, 'i', 2, 'i', 3, 'm', 1, 'F', 5);
        C.due("limit: keeps, as 'm' is not reached", 0, () -> flags.deliver(0));
        C.due("limit: 200", 200, flags::done);
        C.due("limit: flags", 30, flags::flags);
        Filterbench exact = exactly200();
        Sorter.always(exact, 0, 'm', 1);
        Sorter.mail(exact);
        C.due("limit: one more ends all", 0, () -> exact.deliver(0));
        C.due("limit: exactly 200", 200, exact::done);
        Filterbench past = exactly200();
        Sorter.always(past, 0, 'w', 1, 'c', 1, 'm', 2, 'w', 1);
        Sorter.mail(past);
        past.setQuota(1, 0);
        C.due("limit: faults do not end", 0, () -> past.deliver(0));
        C.due("limit: a fault of forwarding, and none behind the end", 1, () -> past.faults('w'));
        C.due("limit: a fault of quota", 1, () -> past.faults('q'));
        // 2 + 4 * (1 + 48) + 2 are 200 actions; an 'm' behind them is a clash, and the last flag is one too many.
        Filterbench clash = Sorter.with('k', 0, 'F', 5, 'i', 1, 'i', 1, 'i', 1);
        Sorter.always(clash, 0, 'i', 1, 'F', 5, 'U', 5, 'm', 1, 'F', 6);
        for (int r = 0; r < 12; r++) {
            Sorter.always(clash, 1, 'F', 1, 'F', 2, 'F', 3, 'F', 4);
        }
        Sorter.mail(clash);
        clash.deliver(0);
        C.due("limit: 200 done", 200, clash::done);
        C.due("limit: a clash behind the 200th", 1, clash::clashes);
        C.due("limit: the 201st is not done", 30, clash::flags);
        Filterbench over = exactly200();
        Sorter.always(over, 0, 'm', 1, 'w', 1);
        Sorter.mail(over);
        over.setQuota(1, 0);
        C.due("limit: an 'm' with a fault would be done", 0, () -> over.deliver(0));
        C.due("limit: so it ends all", 200, over::done);
        C.due("limit: nothing behind it", 0, () -> over.faults('w'));
    }

    /** Script 0 does 200 actions: four times 49 flags of script 1, with the 'i' that does it. */
    private static Filterbench exactly200() {
        Filterbench x = Sorter.with('i', 1, 'i', 1, 'i', 1, 'i', 1);
        for (int r = 0; r < 9; r++) {
            Sorter.always(x, 1, 'F', 1, 'F', 2, 'F', 3, 'F', 4, 'F', 5);
        }
        Sorter.always(x, 1, 'F', 1, 'F', 2, 'F', 3, 'F', 4);
        return x;
    }

    private static void quotas() {
        Filterbench x = Sorter.with('m', 1);
        Sorter.mail(x);
        Sorter.mail(x);
        x.setQuota(1, 100);
        C.due("quota: just enough", 1, () -> x.deliver(0));
        C.due("quota: itself is in no box", 1, () -> x.deliver(0));
        C.due("quota: no fault", 0, () -> x.faults('q'));
        C.due("quota: too much goes to 0", 0, () -> x.deliver(1));
        C.dueDone("quota: the 'm' counts", x, 0);
        C.due("quota: a fault", 1, () -> x.faults('q'));
        x.setQuota(1, 99);
        C.due("quota: one too few", 0, () -> x.attempt(0, 0));
        C.due("quota: a try changes nothing", 1, () -> x.boxOf(0));
        x.setQuota(1, 199);
        x.move(1, 1);
        C.due("quota: moved by hand", 200, () -> x.inBox(1));
        C.due("quota: more than there is room for", 0, () -> x.attempt(0, 0));
        Filterbench behind = Sorter.with('m', 1, 'k', 0, 'c', 1);
        Sorter.mail(behind);
        behind.setQuota(1, 50);
        C.due("quota: first one counts", 0, () -> behind.deliver(0));
        C.due("quota: 'k' is a clash", 1, behind::clashes);
        C.due("quota: 'm' and 'c'", 2, () -> behind.faults('q'));
        Filterbench gave = Sorter.with('m', 1, 'c', 1, 'c', 2, 'c', 1);
        Sorter.mail(gave);
        gave.setQuota(1, 199);
        gave.deliver(0);
        C.due("quota: what 'm' gave counts", 2, () -> gave.faults('q'));
        C.dueDone("quota: what 'm' gave counts", gave, 0, 2);
        gave.setQuota(1, 200);
        gave.deliver(0);
        C.due("quota: room for one copy", 1, () -> gave.faults('q'));
        C.due("quota: the mail and its copy", 200, () -> gave.inBox(1));
        Filterbench copies = Sorter.with('c', 1, 'c', 1, 'm', 1);
        Sorter.mail(copies);
        copies.setQuota(1, 200);
        C.due("quota: copies of this delivery count", 0, () -> copies.deliver(0));
        C.due("quota: copies stay", 200, () -> copies.inBox(1));
        Filterbench free = Sorter.with('c', 0, 'c', 0, 'c', 0, 'm', 0);
        for (int i = 0; i < 6; i++) {
            free.mail(1, 1, 0, 0, 999);
            free.deliver(i);
        }
        C.due("quota: none of box 0", 24 * 999, () -> free.inBox(0));
        C.due("quota: no fault in box 0", 0, () -> free.faults('q'));
        Filterbench none = Sorter.with('c', 1, 'r', 0);
        Sorter.mail(none);
        none.setQuota(1, 0);
        C.due("quota: a 'c' that was not done", 9, () -> none.deliver(0));
    }

    private static void replyDays() {
        Filterbench x = Sorter.with('v', 30);
        Sorter.mail(x);
        x.deliver(0);
        C.due("reply: the first", 1, () -> x.replies(1));
        x.pass(29);
        x.deliver(0);
        C.due("reply: on the 29th day", 1, () -> x.replies(1));
        x.pass(1);
        x.deliver(0);
        C.due("reply: on the 30th day", 2, () -> x.replies(1));
        Filterbench daily = Sorter.with('v', 1, 'v', 1);
        Sorter.mail(daily);
        Sorter.mail(daily);
        daily.mail(2, 1, 0, 0, 5);
        daily.deliver(0);
        C.due("reply: one of a delivery", 1, () -> daily.replies(1));
        C.dueDone("reply: done all the same", daily, 0, 1);
        daily.deliver(1);
        C.due("reply: today included", 1, () -> daily.replies(1));
        daily.deliver(2);
        C.due("reply: to another person", 1, () -> daily.replies(2));
        daily.pass(1);
        daily.attempt(0, 0);
        C.due("reply: not by a try", 1, () -> daily.replies(1));
        daily.deliver(0);
        C.due("reply: the next day", 2, () -> daily.replies(1));
        Filterbench two = Sorter.with('v', 5, 'v', 2);
        Sorter.mail(two);
        two.deliver(0);
        two.pass(3);
        two.deliver(0);
        C.due("reply: by the second one", 2, () -> two.replies(1));
        two.pass(4);
        two.deliver(0);
        C.due("reply: the last one counts", 3, () -> two.replies(1));
        Filterbench mute = Sorter.with('v', 9, 'r', 0);
        Sorter.mail(mute);
        mute.deliver(0);
        C.due("reply: without a reply, 'r' is a clash all the same", 0, () -> mute.deliver(0));
        C.due("reply: the clash", 1, mute::clashes);
    }

    private static void forwards() {
        Filterbench x = Sorter.with('w', 1, 'w', 0, 'w', 2, 'w', 2, 'w', 9);
        x.mail(1, 1 | 1 << 5, 0, 0, 7);
        x.deliver(0);
        C.dueDone("forward", x, 2, 4);
        C.due("forward: faults", 3, () -> x.faults('w'));
        C.due("forward: to 2", 1, () -> x.forwarded(2));
        x.deliver(0);
        C.due("forward: before in this delivery alone", 2, () -> x.forwarded(2));
        C.due("forward: the sender", 0, () -> x.forwarded(1));
        x.attempt(0, 0);
        C.due("forward: not by a try", 2, () -> x.forwarded(9));
    }

    private static void flagsNow() {
        Filterbench x = new Filterbench();
        int flag = x.test('k', 1, 0);
        int none = x.test('!', flag, 0);
        x.rule(0, none);
        x.action(0, 0, 'F', 1);
        x.rule(0, flag);
        x.action(0, 1, 'U', 1);
        x.rule(0, flag);
        x.action(0, 2, 'm', 1);
        x.rule(0, none);
        x.action(0, 3, 'F', 1);
        x.action(0, 3, 'm', 2);
        Sorter.mail(x);
        C.due("flags now", 2, () -> x.deliver(0));
        C.dueDone("flags now", x, 0, 10, 30, 31);
        C.due("flags now: none at first", 2, () -> x.deliver(0));
        C.due("flags now: left", 2, x::flags);
        C.due("flags now: has", true, () -> x.hasFlag(0, 1));
    }

    private static void attempt() {
        Filterbench x = Sorter.with('m', 3, 'c', 4, 'w', 7, 'v', 1, 'F', 6);
        int m = Sorter.mail(x);
        C.due("attempt", 3, () -> x.attempt(0, m));
        C.dueDone("attempt", x, 0, 1, 2, 3, 4);
        C.due("attempt: flags", 64, x::flags);
        C.refuses("attempt: not delivered", ELEMENT, () -> x.boxOf(m));
        C.due("attempt: no mail", 0, () -> x.inBox(3));
        C.due("attempt: no copy", 0, () -> x.inBox(4));
        C.due("attempt: no forward", 0, () -> x.forwarded(7));
        C.due("attempt: no reply", 0, () -> x.replies(1));
        C.due("attempt: no flag", false, () -> x.hasFlag(m, 6));
        C.refuses("attempt: none delivered", ARITHMETIC, x::goneShare);
        C.due("attempt: another script", 0, () -> x.attempt(3, m));
        C.dueDone("attempt: another script", x);
        Sorter.always(x, 3, 'x', 0);
        C.due("attempt: lets go", 8, () -> x.attempt(3, m));
        C.due("attempt: is not gone", 100L, x::sum);
        x.deliver(m);
        C.due("attempt: in its box", 8, () -> x.attempt(3, m));
        C.due("attempt: still there", 3, () -> x.boxOf(m));
        C.refuses("attempt(4, 0)", INDEX, () -> x.attempt(4, m));
        C.refuses("attempt(-1, 0)", INDEX, () -> x.attempt(-1, m));
        C.refuses("attempt(0, 1)", INDEX, () -> x.attempt(0, 1));
        C.refuses("attempt(0, -1)", INDEX, () -> x.attempt(0, -1));
    }

    private static void doneAndDoneAt() {
        Filterbench x = new Filterbench();
        x.test('a', 0, 0);
        Sorter.mail(x);
        x.deliver(0);
        C.due("done: keeping at the end counts none", 0, x::done);
        C.refuses("doneAt(0)", INDEX, () -> x.doneAt(0));
        for (int r = 0; r < 12; r++) {
            Sorter.always(x, 3, 'F', 1, 'F', 2, 'F', 3, 'F', 4, 'U', 4);
        }
        x.attempt(3, 0);
        C.due("done: 60", 60, x::done);
        C.due("doneAt(59)", 3114, () -> x.doneAt(59));
        C.due("doneAt(7)", 3012, () -> x.doneAt(7));
        C.refuses("doneAt(60)", INDEX, () -> x.doneAt(60));
        C.refuses("doneAt(-1)", INDEX, () -> x.doneAt(-1));
        C.refuses("deliver(9)", INDEX, () -> x.deliver(9));
        C.due("done: the last stays", 60, x::done);
    }

    private static void clashesAndFaults() {
        Filterbench x = Sorter.with('k', 0, 'm', 1, 'w', 1, 'c', 1, 'i', 0);
        Sorter.mail(x);
        x.setQuota(1, 0);
        x.deliver(0);
        C.due("clashes: in each script", 9, x::clashes);
        C.due("faults: 'w' in each", 5, () -> x.faults('w'));
        C.due("faults: 'q' in each", 5, () -> x.faults('q'));
        C.due("faults: 'i' in the last", 1, () -> x.faults('i'));
        C.dueDone("clashes and faults", x, 0, 4, 4, 4, 4);
        x.attempt(1, 0);
        C.due("clashes: of the last", 0, x::clashes);
        C.due("faults: of the last", 0, () -> x.faults('w') + x.faults('q') + x.faults('i'));
        for (char kind : new char[] {'x', 'W', 'I', 'Q', (char) 0, (char) 300}) {
            C.refuses("faults: no such kind", ARGUMENT, () -> x.faults(kind));
        }
    }

    private static void flags() {
        Filterbench x = Sorter.with('F', 0, 'F', 7, 'F', 7, 'U', 6);
        Sorter.always(x, 1, 'F', 3, 'U', 3);
        Sorter.mail(x);
        x.deliver(0);
        C.due("flags", 129, x::flags);
        x.attempt(1, 0);
        C.due("flags: of the try", 0, x::flags);
        C.due("flags: of the mail", true, () -> x.hasFlag(0, 7));
    }

    private static void replies() {
        Filterbench x = Sorter.with('v', 1);
        x.mail(0, 1, 0, 0, 1);
        x.mail(9, 1, 0, 0, 1);
        x.deliver(0);
        x.deliver(1);
        x.pass(1);
        x.deliver(1);
        C.due("replies(0)", 1, () -> x.replies(0));
        C.due("replies(9)", 2, () -> x.replies(9));
        C.due("replies(5)", 0, () -> x.replies(5));
        C.refuses("replies(10)", INDEX, () -> x.replies(10));
        C.refuses("replies(-1)", INDEX, () -> x.replies(-1));
    }

    private static void forwarded() {
        Filterbench x = Sorter.with('w', 0, 'w', 9);
        x.mail(1, 4, 0, 0, 1);
        x.mail(9, 4, 0, 0, 1);
        x.deliver(0);
        x.deliver(1);
        C.due("forwarded(0)", 2, () -> x.forwarded(0));
        C.due("forwarded(9)", 1, () -> x.forwarded(9));
        C.due("forwarded(4)", 0, () -> x.forwarded(4));
        C.refuses("forwarded(10)", INDEX, () -> x.forwarded(10));
        C.refuses("forwarded(-1)", INDEX, () -> x.forwarded(-1));
    }

    private static void difference() {
        Filterbench x = new Filterbench();
        int always = x.test('a', 0, 0);
        int big = x.test('z', 50, 0);
        x.rule(0, always);
        x.action(0, 0, 'm', 1);
        x.rule(1, big);
        x.action(1, 0, 'm', 1);
        for (int i = 0; i < 5; i++) {
            x.mail(1, 1, 0, 0, 49 + i);
        }
        x.deliver(4);
        C.due("difference: outcomes, delivered or not", 2, () -> x.difference(0, 1));
        C.due("difference: the other way round", 2, () -> x.difference(1, 0));
        C.due("difference: of itself", 0, () -> x.difference(1, 1));
        x.rule(2, always);
        x.action(2, 0, 'F', 1);
        C.due("difference: flags", 5, () -> x.difference(2, 3));
        x.action(2, 0, 'U', 1);
        C.due("difference: flags that are left", 0, () -> x.difference(2, 3));
        Sorter.always(x, 3, 'c', 5, 'k', 0);
        C.due("difference: of what is done alone, none", 0, () -> x.difference(2, 3));
        x.clear(2);
        x.clear(3);
        Sorter.always(x, 2, 'x', 0);
        Sorter.always(x, 3, 'r', 0);
        C.due("difference: let go or sent back", 5, () -> x.difference(2, 3));
        C.dueDone("difference: the last delivery stays", x, 0);
        C.due("difference: changes nothing", 1, () -> x.boxOf(4));
        C.refuses("difference(4, 0)", INDEX, () -> x.difference(4, 0));
        C.refuses("difference(0, 4)", INDEX, () -> x.difference(0, 4));
        C.refuses("difference(-1, 0)", INDEX, () -> x.difference(-1, 0));
        C.refuses("difference(0, -1)", INDEX, () -> x.difference(0, -1));
    }

    private static void isShadowed() {
        Filterbench x = new Filterbench();
        int from1 = x.test('f', 1, 0);
        int from2 = x.test('f', 2, 0);
        int always = x.test('a', 0, 0);
        int never = x.test('!', always, 0);
        int both = x.test('&', from1, from2);
        x.rule(0, from1);
        x.rule(0, from1);
        C.due("isShadowed: nothing ends ahead", false, () -> x.isShadowed(0, 1));
        x.action(0, 0, 'i', 1);
        Sorter.always(x, 1, 'S', 0);
        C.due("isShadowed: 'i' ends nothing", false, () -> x.isShadowed(0, 1));
        x.action(0, 0, 's', 0);
        C.due("isShadowed: the same ends ahead", true, () -> x.isShadowed(0, 1));
        C.due("isShadowed: the first one", false, () -> x.isShadowed(0, 0));
        x.rule(0, from2);
        C.due("isShadowed: another sender", false, () -> x.isShadowed(0, 2));
        x.rule(0, both);
        C.due("isShadowed: two senders", true, () -> x.isShadowed(0, 3));
        x.rule(0, never);
        C.due("isShadowed: never", true, () -> x.isShadowed(0, 4));
        x.reorder(0, 1, 0);
        C.due("isShadowed: behind reorder", false, () -> x.isShadowed(0, 1));
        C.refuses("isShadowed(4, 0)", INDEX, () -> x.isShadowed(4, 0));
        C.refuses("isShadowed(-1, 0)", INDEX, () -> x.isShadowed(-1, 0));
        C.refuses("isShadowed(0, 5)", INDEX, () -> x.isShadowed(0, 5));
        C.refuses("isShadowed(0, -1)", INDEX, () -> x.isShadowed(0, -1));
        C.refuses("isShadowed(3, 0)", INDEX, () -> x.isShadowed(3, 0));
        Filterbench all = new Filterbench();
        for (int p = 0; p < 10; p++) {
            all.rule(0, all.test('f', p, 0));
            all.action(0, p, 'S', 0);
        }
        all.rule(0, all.test('a', 0, 0));
        C.due("isShadowed: by all senders", true, () -> all.isShadowed(0, 10));
        C.due("isShadowed: the last sender", false, () -> all.isShadowed(0, 9));
        Filterbench week = new Filterbench();
        for (int d = 0; d < 7; d++) {
            week.rule(0, week.test('d', d, 0));
            week.action(0, d, 's', 0);
        }
        week.rule(0, week.test('b', 15, 0));
        C.due("isShadowed: by all weekdays", true, () -> week.isShadowed(0, 7));
        Filterbench flag = new Filterbench();
        int k = flag.test('k', 0, 0);
        int notK = flag.test('!', k, 0);
        int bothK = flag.test('&', k, notK);
        int nothing = flag.test('!', flag.test('a', 0, 0), 0);
        int noneK = flag.test('&', k, nothing);
        flag.rule(0, k);
        flag.action(0, 0, 's', 0);
        flag.rule(0, k);
        flag.rule(0, bothK);
        flag.rule(0, noneK);
        C.due("isShadowed: a flag may have come off", false, () -> flag.isShadowed(0, 1));
        C.due("isShadowed: each time it is looked at", false, () -> flag.isShadowed(0, 2));
        C.due("isShadowed: not whatever the flag", true, () -> flag.isShadowed(0, 3));
    }

    private static void areSame() {
        Filterbench x = new Filterbench();
        int p = x.test('s', 3, 0);
        int q = x.test('b', 3, 0);
        int notP = x.test('!', p, 0);
        int notQ = x.test('!', q, 0);
        int and = x.test('&', p, q);
        int or = x.test('|', notP, notQ);
        int nand = x.test('!', and, 0);
        C.due("areSame: itself", true, () -> x.areSame(p, p));
        C.due("areSame: subject and body", false, () -> x.areSame(p, q));
        C.due("areSame: the rule of contraries", true, () -> x.areSame(or, nand));
        C.due("areSame: the other way round", true, () -> x.areSame(nand, or));
        C.due("areSame: more", false, () -> x.areSame(and, p));
        C.due("areSame: less", false, () -> x.areSame(p, and));
        int flag = x.test('k', 2, 0);
        int same = x.test('k', 2, 0);
        int off = x.test('&', flag, x.test('&', p, notP));
        int never = x.test('!', x.test('a', 0, 0), 0);
        int sure = x.test('|', flag, x.test('|', p, notP));
        C.due("areSame: a flag", false, () -> x.areSame(flag, flag));
        C.due("areSame: the flag once more", false, () -> x.areSame(flag, same));
        C.due("areSame: a flag that does not matter", true, () -> x.areSame(off, off));
        C.due("areSame: never", true, () -> x.areSame(off, never));
        C.due("areSame: always", true, () -> x.areSame(sure, x.test('a', 0, 0)));
        int alsoP = x.test('|', p, x.test('&', flag, p));
        C.due("areSame: a flag that adds nothing", true, () -> x.areSame(alsoP, p));
        int perhapsQ = x.test('|', p, x.test('&', flag, q));
        C.due("areSame: a flag that matters", false, () -> x.areSame(perhapsQ, perhapsQ));
        int end = x.test('f', 0, 0);
        C.refuses("areSame: no such test", INDEX, () -> x.areSame(end + 1, 0));
        C.refuses("areSame: no such other test", INDEX, () -> x.areSame(0, end + 1));
        C.refuses("areSame(-1, 0)", INDEX, () -> x.areSame(-1, 0));
        C.refuses("areSame(0, -1)", INDEX, () -> x.areSame(0, -1));
    }

    private static void areSameOfNumbers() {
        Filterbench x = new Filterbench();
        int always = x.test('a', 0, 0);
        C.due("areSame: at least one receiver", true, () -> x.areSame(always, x.test('n', 1, 0)));
        C.due("areSame: at least two receivers", false, () -> x.areSame(always, x.test('n', 2, 0)));
        C.due("areSame: a size above 0", true, () -> x.areSame(always, x.test('z', 0, 0)));
        C.due("areSame: a size above 1", false, () -> x.areSame(always, x.test('z', 1, 0)));
        int never = x.test('!', always, 0);
        C.due("areSame: a size above 999", true, () -> x.areSame(never, x.test('z', 999, 0)));
        C.due("areSame: a size above 998", false, () -> x.areSame(never, x.test('z', 998, 0)));
        int from = x.test('f', 0, 0);
        for (int p = 1; p < 10; p++) {
            from = x.test('|', from, x.test('f', p, 0));
        }
        int anybody = from;
        C.due("areSame: any sender", true, () -> x.areSame(anybody, always));
        int ten = x.test('n', 10, 0);
        int everybody = x.test('t', 0, 0);
        for (int p = 1; p < 10; p++) {
            everybody = x.test('&', everybody, x.test('t', p, 0));
        }
        int allTen = everybody;
        C.due("areSame: all receivers", true, () -> x.areSame(ten, allTen));
        Filterbench y = new Filterbench();
        int day = y.test('d', 0, 0);
        for (int d = 1; d < 6; d++) {
            day = y.test('|', day, y.test('d', d, 0));
        }
        int six = day;
        int sunday = y.test('!', y.test('d', 6, 0), 0);
        C.due("areSame: six weekdays", true, () -> y.areSame(six, sunday));
        int only = y.test('t', 0, 0);
        int nobodyElse = y.test('t', 1, 0);
        for (int p = 2; p < 10; p++) {
            nobodyElse = y.test('|', nobodyElse, y.test('t', p, 0));
        }
        int alone = y.test('!', nobodyElse, 0);
        int onlyAlone = y.test('&', only, alone);
        C.due("areSame: nobody else means this one", true, () -> y.areSame(alone, onlyAlone));
        int one = y.test('!', y.test('n', 2, 0), 0);
        C.due("areSame: one receiver, not this one", false, () -> y.areSame(alone, one));
        int oneHere = y.test('&', one, only);
        C.due("areSame: this one receiver", true, () -> y.areSame(alone, oneHere));
        C.due("areSame: may be anybody", false, () -> y.areSame(y.test('&', one, nobodyElseOf(y)), one));
    }

    private static int nobodyElseOf(Filterbench y) {
        return y.test('|', y.test('t', 8, 0), y.test('t', 9, 0));
    }

    private static int word(Filterbench x, int number) {
        return x.test(number < 16 ? 's' : 'b', number % 16, 0);
    }

    private static int oneOfTwo(Filterbench x, int a, int b) {
        int some = x.test('|', a, b);
        int both = x.test('&', a, b);
        return x.test('&', some, x.test('!', both, 0));
    }

    /** Tests by more words than could be tried one by one. */
    private static void manyWords() {
        Filterbench odd = new Filterbench();
        int[] words = new int[7];
        for (int i = 0; i < 7; i++) {
            words[i] = word(odd, i);
        }
        int up = words[0];
        int down = words[6];
        for (int i = 1; i < 7; i++) {
            up = oneOfTwo(odd, up, words[i]);
            down = oneOfTwo(odd, down, words[6 - i]);
        }
        int oddUp = up;
        int oddDown = down;
        C.due("areSame: an odd number of words, in both orders", true, () -> odd.areSame(oddUp, oddDown));
        C.due("areSame: of less words", false, () -> odd.areSame(oddUp, oddUp - 4));

        Filterbench pairs = new Filterbench();
        int some = -1;
        int other = -1;
        for (int i = 0; i < 10; i++) {
            words = new int[] {word(pairs, 2 * i), word(pairs, 2 * i + 1)};
            int pair = pairs.test('&', words[0], words[1]);
            some = i == 0 ? pair : pairs.test('|', some, pair);
            int turned = pairs.test('&', words[1], words[0]);
            other = i == 0 ? turned : pairs.test('|', turned, other);
        }
        int onePair = some;
        int oneTurned = other;
        C.due("areSame: one of ten pairs of words", true, () -> pairs.areSame(onePair, oneTurned));

        // Twelve rules by 36 words and receivers; each by three of them.
        Filterbench rules = new Filterbench();
        for (int r = 0; r < 12; r++) {
            int test = -1;
            for (int i = 0; i < 3; i++) {
                int number = 3 * r + i;
                int one = number < 32 ? word(rules, number) : rules.test('t', number - 32, 0);
                test = test < 0 ? one : rules.test(r == 11 ? '|' : '&', test, one);
            }
            rules.rule(0, test);
            rules.action(0, r, 's', 0);
        }
        C.due("isShadowed: not by 33 other words", false, () -> rules.isShadowed(0, 11));
        C.due("isShadowed: nor by 30", false, () -> rules.isShadowed(0, 10));
        rules.reorder(0, 11, 0);
        C.due("isShadowed: nor when it is first", false, () -> rules.isShadowed(0, 11));
    }

    private static void learn() {
        Filterbench x = new Filterbench();
        C.refuses("learn(8)", INDEX, () -> x.learn(8));
        C.refuses("learn(-1)", INDEX, () -> x.learn(-1));
        C.refuses("learn(1): none", ELEMENT, () -> x.learn(1));
        x.mail(1, 1, 0, 0, 10);
        x.mail(1, 1, 0, 0, 10);
        x.deliver(0);
        x.deliver(1);
        x.move(0, 1);
        C.refuses("learn: no test tells them apart", ELEMENT, () -> x.learn(1));
        x.move(1, 1);
        C.due("learn: the first one that holds for all", 1, () -> x.learn(1));
        x.test('f', 0, 0);
        C.due("learn: not from 0", true, () -> x.areSame(0, 2));
        x.move(1, 2);
        C.refuses("learn: moved to another one since", ELEMENT, () -> x.learn(1));
        x.deliver(1);
        C.refuses("learn: delivered since", ELEMENT, () -> x.learn(2));
        C.refuses("learn: sorted into the box, but not by hand", ELEMENT, () -> x.learn(0));
        C.refuses("learn: others that were not moved", ELEMENT, () -> x.learn(1));
        x.rule(0, x.test('a', 0, 0));
        x.action(0, 0, 'x', 0);
        x.deliver(1);
        C.due("learn: gone mail does not count", 5, () -> x.learn(1));
        x.mail(1, 1, 0, 0, 10);
        C.due("learn: nor mail that was not delivered", 7, () -> x.learn(1));
        Filterbench full = new Filterbench();
        full.mail(1, 1, 0, 0, 10);
        full.mail(2, 1, 0, 0, 20);
        full.deliver(0);
        full.deliver(1);
        full.move(0, 3);
        for (int i = 0; i < 59; i++) {
            full.test('a', 0, 0);
        }
        C.due("learn: the 60th test", 59, () -> full.learn(3));
        C.refuses("learn: a 61st test", STATE, () -> full.learn(3));
        C.refuses("learn: none, and no room", ELEMENT, () -> full.learn(4));
        C.refuses("learn: no box, and no room", INDEX, () -> full.learn(8));
        C.refuses("learn: nothing was made", STATE, () -> full.test('a', 0, 0));
    }

    private static void learnOrder() {
        // Of the contraries, the one of the person 1 is the first that tells them apart: 'f' 0 holds for neither.
        Filterbench x = new Filterbench();
        x.mail(1, 1, 0, 0, 10);
        x.mail(2, 1, 0, 0, 20);
        x.mail(3, 1, 0, 0, 30);
        for (int i = 0; i < 3; i++) {
            x.deliver(i);
        }
        x.move(1, 1);
        x.move(2, 1);
        C.due("learn: the contrary", 1, () -> x.learn(1));
        C.due("learn: its part", true, () -> x.holds(0, 0));
        C.due("learn: its part not", false, () -> x.holds(0, 1));
        C.due("learn: the contrary holds", true, () -> x.holds(1, 1) && x.holds(1, 2) && !x.holds(1, 0));
        x.move(1, 2);
        x.move(2, 2);
        x.move(0, 3);
        C.due("learn: without a contrary", 2, () -> x.learn(3));
        C.due("learn: as before", true, () -> x.areSame(2, 0));
        // A size between two others: greater than 19, and not greater than 29.
        Filterbench size = new Filterbench();
        for (int i = 1; i < 4; i++) {
            size.mail(1, 1, 0, 0, 10 * i);
            size.deliver(i - 1);
        }
        size.move(1, 1);
        C.due("learn: two parts, one a contrary", 3, () -> size.learn(1));
        int greater19 = size.test('z', 19, 0);
        int greater29 = size.test('z', 29, 0);
        C.due("learn: the first part", true, () -> size.areSame(0, greater19));
        C.due("learn: the second part", true, () -> size.areSame(1, greater29));
        C.due("learn: its contrary", true, () -> size.areSame(2, size.test('!', greater29, 0)));
        C.due("learn: both", true, () -> size.areSame(3, size.test('&', 0, 2)));
        // Two contraries make five tests; with 56 there is no room for them.
        Filterbench two = new Filterbench();
        for (int i = 0; i < 3; i++) {
            two.mail(i + 1, 2, 0, 0, 50);
            two.deliver(i);
        }
        two.mail(4, 2, 0, 0, 50);
        two.deliver(3);
        two.move(0, 1);
        two.move(1, 1);
        for (int i = 0; i < 56; i++) {
            two.test('a', 0, 0);
        }
        C.refuses("learn: five tests behind 56", STATE, () -> two.learn(1));
        C.due("learn: nothing was made", 56, () -> two.test('a', 0, 0));
        Filterbench five = new Filterbench();
        for (int i = 0; i < 4; i++) {
            five.mail(i + 1, 2, 0, 0, 50);
            five.deliver(i);
        }
        five.move(0, 1);
        five.move(1, 1);
        for (int i = 0; i < 55; i++) {
            five.test('a', 0, 0);
        }
        C.due("learn: five tests behind 55", 59, () -> five.learn(1));
        C.due("learn: not from 3, not from 4", true,
            () -> five.holds(59, 0) && five.holds(59, 1) && !five.holds(59, 2) && !five.holds(59, 3));
        C.due("learn: the parts", true, () -> five.holds(55, 2) && five.holds(57, 3));
        // The weekday comes last, and is found if nothing else tells them apart.
        Filterbench day = new Filterbench();
        day.mail(1, 1, 0, 0, 10);
        day.pass(3);
        day.mail(1, 1, 0, 0, 10);
        day.deliver(0);
        day.deliver(1);
        day.move(1, 1);
        C.due("learn: the contrary of the weekday 0", 1, () -> day.learn(1));
        C.due("learn: the weekday 0", true, () -> day.areSame(0, day.test('d', 0, 0)));
    }

    private static void sum() {
        Filterbench x = Sorter.with('x', 0);
        x.mail(1, 1, 0, 0, 999);
        x.mail(1, 1, 0, 0, 1);
        C.due("sum: not delivered", 1000L, x::sum);
        x.attempt(0, 0);
        C.due("sum: tried", 1000L, x::sum);
        x.deliver(0);
        C.due("sum: gone", 1L, x::sum);
        x.clear(0);
        Sorter.always(x, 0, 'c', 1);
        x.deliver(0);
        C.due("sum: not gone any more, copies aside", 1000L, x::sum);
    }

    private static void goneShare() {
        Filterbench x = Sorter.with('x', 0);
        C.refuses("goneShare: no mail", ARITHMETIC, x::goneShare);
        Sorter.mail(x);
        Sorter.mail(x);
        Sorter.mail(x);
        Sorter.mail(x);
        C.refuses("goneShare: none delivered", ARITHMETIC, x::goneShare);
        x.deliver(0);
        C.due("goneShare: all", 1.0f, x::goneShare);
        x.clear(0);
        x.deliver(1);
        x.deliver(2);
        C.due("goneShare: a third", 1.0f / 3.0f, x::goneShare);
        x.deliver(0);
        C.due("goneShare: none", 0.0f, x::goneShare);
        Sorter.always(x, 0, 'r', 0);
        x.deliver(0);
        x.deliver(1);
        C.due("goneShare: sent back", 2.0f / 3.0f, x::goneShare);
    }

    private static void meanSize() {
        Filterbench x = Sorter.with('c', 1, 'm', 1);
        x.mail(1, 1, 0, 0, 10);
        x.mail(1, 1, 0, 0, 20);
        x.mail(1, 1, 0, 0, 23);
        C.refuses("meanSize: not delivered", ARITHMETIC, () -> x.meanSize(1));
        x.deliver(0);
        C.due("meanSize: copies aside", 10.0, () -> x.meanSize(1));
        x.deliver(1);
        x.deliver(2);
        C.due("meanSize: of three", 53.0 / 3.0, () -> x.meanSize(1));
        C.refuses("meanSize: none in 0", ARITHMETIC, () -> x.meanSize(0));
        x.clear(0);
        Sorter.always(x, 0, 'x', 0);
        x.deliver(1);
        C.due("meanSize: without the gone one", 16.5, () -> x.meanSize(1));
        C.refuses("meanSize(8)", INDEX, () -> x.meanSize(8));
        C.refuses("meanSize(-1)", INDEX, () -> x.meanSize(-1));
    }

    private static void isTrue() {
        Filterbench x = Sorter.with('i', 1, 's', 0);
        Sorter.always(x, 0, 'k', 0);
        Sorter.always(x, 1, 'F', 1);
        Sorter.mail(x);
        x.deliver(0);
        C.due("isTrue", true, x::isTrue);
        C.dueDone("isTrue: the last delivery stays", x, 0, 1000, 1);
        C.due("isTrue: flags stay", 2, x::flags);
        C.due("isTrue: though a rule is shadowed", true, () -> x.isShadowed(0, 1));
        int flag = x.test('k', 1, 0);
        x.rule(2, flag);
        x.action(2, 0, 's', 0);
        Sorter.always(x, 2, 'F', 1);
        x.rule(2, flag);
        C.due("isTrue: a flag that came between", true, x::isTrue);
        C.due("isTrue: it is not shadowed", false, () -> x.isShadowed(2, 2));
    }
}
