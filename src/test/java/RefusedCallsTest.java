import java.util.ArrayList;
import java.util.List;
import java.util.NoSuchElementException;

/**
 * Each call that the document refuses, at each of its edges: the last number that is taken, the first one that is
 * not, the exception that is named first where several apply, and that a refused call changes nothing. For the last,
 * two objects are built alike, the call is made on one of them, and both are asked about all that they hold.
 */
public final class RefusedCallsTest {
    private static final Class<IndexOutOfBoundsException> INDEX = IndexOutOfBoundsException.class;
    private static final Class<IllegalArgumentException> ARGUMENT = IllegalArgumentException.class;
    private static final Class<IllegalStateException> STATE = IllegalStateException.class;
    private static final Class<NoSuchElementException> ELEMENT = NoSuchElementException.class;
    private static final Class<ArithmeticException> ARITHMETIC = ArithmeticException.class;

    private static final Check C = new Check();

    private static final int MAILS = 6;
    private static final int GONE = 3;
    private static final int NEVER_DELIVERED = 5;
    private static final int TESTS = 7;

    interface Story {
        Filterbench tell();
    }

    interface Call {
        Object on(Filterbench x);
    }

    interface NumberCall {
        Object on(Filterbench x, int number);
    }

    public static void main(String[] args) {
        mail();
        pass();
        setQuota();
        inBox();
        boxOf();
        hasFlag();
        move();
        testNumbers();
        testParts();
        testKinds();
        testFull();
        holds();
        rule();
        actionNumbers();
        actionKinds();
        actionFull();
        clear();
        reorder();
        deliver();
        attempt();
        doneAt();
        faults();
        persons();
        difference();
        isShadowed();
        areSame();
        learn();
        learnFull();
        means();
        C.end();
    }

    // ---- objects to call

    /** Something of everything: sorted, gone and moved mail, copies, replies, forwards, clashes, faults and flags. */
    private static Filterbench busy() {
        Filterbench x = new Filterbench();
        x.mail(1, 6, 3, 1, 100);
        x.mail(2, 1, 1, 0, 300);
        x.pass(3);
        x.mail(1, 8, 2, 2, 200);
        x.mail(4, 1, 0, 4, 50);
        x.mail(1, 1, 0, 0, 70);
        x.mail(9, 512, 0, 0, 999);
        x.test('a', 0, 0);
        x.test('f', 1, 0);
        x.test('k', 2, 0);
        x.test('!', 1, 0);
        x.test('&', 1, 2);
        x.test('s', 1, 0);
        x.test('f', 4, 0);
        Sorter.when(x, 0, 1, 'F', 2, 'v', 2, 'w', 7, 'w', 7);
        Sorter.when(x, 0, 2, 'c', 1, 'i', 1);
        Sorter.when(x, 0, 5, 'm', 2, 'c', 4);
        Sorter.when(x, 0, 6, 'x', 0, 'F', 2);
        Sorter.when(x, 1, 0, 'i', 1, 'm', 3);
        Sorter.when(x, 2, 1, 's', 0);
        Sorter.when(x, 2, 1, 'F', 1);
        x.setQuota(3, 500);
        x.setQuota(4, 10);
        for (int mail = 0; mail < NEVER_DELIVERED; mail++) {
            x.deliver(mail);
        }
        x.move(1, 5);
        x.move(4, 6);
        x.pass(1);
        x.deliver(0);
        return x;
    }

    private static Filterbench fullOfMails() {
        Filterbench x = busy();
        for (int mail = MAILS; mail < 40; mail++) {
            Sorter.mail(x);
        }
        return x;
    }

    private static Filterbench withTests(int tests) {
        Filterbench x = busy();
        for (int test = TESTS; test < tests; test++) {
            x.test('d', test % 7, 0);
        }
        return x;
    }

    private static Filterbench fullOfTests() {
        return withTests(60);
    }

    private static Filterbench fullOfRules() {
        Filterbench x = busy();
        for (int rule = 0; rule < 12; rule++) {
            Sorter.always(x, 3, 'F', rule % 8);
        }
        return x;
    }

    private static Filterbench fullOfActions() {
        Filterbench x = busy();
        Sorter.always(x, 3, 'c', 5, 'm', 4, 'U', 1, 'F', 3, 'F', 6);
        return x;
    }

    /** No call of these can be refused for what is there, as nothing is. */
    private static Filterbench empty() {
        return new Filterbench();
    }

    // ---- all that an object answers

    private static List<Object> answers(Filterbench x) {
        List<Object> answers = new ArrayList<>();
        askLast(x, answers);
        askMails(x, answers);
        askTests(x, answers);
        useAll(x, answers);
        return answers;
    }

    private static void ask(Filterbench x, List<Object> answers, Call call) {
        answers.add(Check.answerOf(() -> call.on(x)));
    }

    private static void askLast(Filterbench x, List<Object> answers) {
        ask(x, answers, Filterbench::done);
        for (int i = 0; i < 10; i++) {
            int index = i;
            ask(x, answers, y -> y.doneAt(index));
        }
        ask(x, answers, Filterbench::clashes);
        ask(x, answers, y -> y.faults('i'));
        ask(x, answers, y -> y.faults('w'));
        ask(x, answers, y -> y.faults('q'));
        ask(x, answers, Filterbench::flags);
    }

    private static void askMails(Filterbench x, List<Object> answers) {
        for (int i = 0; i < 8; i++) {
            int box = i;
            ask(x, answers, y -> y.inBox(box));
            ask(x, answers, y -> y.meanSize(box));
        }
        for (int i = 0; i < 10; i++) {
            int person = i;
            ask(x, answers, y -> y.replies(person));
            ask(x, answers, y -> y.forwarded(person));
        }
        for (int i = 0; i <= MAILS; i++) {
            int mail = i;
            ask(x, answers, y -> y.boxOf(mail));
            ask(x, answers, y -> y.hasFlag(mail, 2));
        }
        ask(x, answers, Filterbench::sum);
        ask(x, answers, Filterbench::goneShare);
        ask(x, answers, y -> y.difference(0, 1));
        ask(x, answers, y -> y.difference(2, 3));
    }

    private static void askTests(Filterbench x, List<Object> answers) {
        for (int i = 0; i <= TESTS; i++) {
            int test = i;
            ask(x, answers, y -> y.holds(test, 0));
            ask(x, answers, y -> y.holds(test, 1));
            ask(x, answers, y -> y.areSame(test, 4));
        }
        for (int i = 0; i < 4; i++) {
            int script = i;
            ask(x, answers, y -> y.isShadowed(script, 0));
            ask(x, answers, y -> y.isShadowed(script, 1));
        }
    }

    /** Uses what can't be asked for: the counts, the day, the quotas, the rules and actions, the days of replies. */
    private static void useAll(Filterbench x, List<Object> answers) {
        for (int i = 0; i < 16; i++) {
            int script = i / 4;
            int mail = i % 4;
            ask(x, answers, y -> y.attempt(script, mail));
            ask(x, answers, Filterbench::done);
            ask(x, answers, Filterbench::flags);
        }
        for (int i = 0; i < 4; i++) {
            int script = i;
            ask(x, answers, y -> y.rule(script, 0));
            ask(x, answers, y -> y.action(script, 0, 'F', 5));
            ask(x, answers, y -> y.action(script, 1, 'F', 6));
        }
        for (int i = 0; i < MAILS; i++) {
            int mail = i;
            ask(x, answers, y -> y.deliver(mail));
            ask(x, answers, Filterbench::done);
            ask(x, answers, y -> y.replies(1));
        }
        ask(x, answers, y -> y.learn(5));
        ask(x, answers, y -> y.learn(6));
        for (int i = 1; i < 8; i++) {
            int box = i;
            ask(x, answers, y -> y.setQuota(box, 1));
        }
        ask(x, answers, y -> y.test('a', 0, 0));
        ask(x, answers, y -> y.mail(1, 1, 1, 1, 1));
        ask(x, answers, y -> y.pass(1));
        for (int i = 0; i < 4; i++) {
            int script = i;
            ask(x, answers, y -> y.clear(script));
        }
    }

    // ---- how a call is looked at

    private static void takes(String what, Object due, Story story, Call call) {
        Filterbench x = story.tell();
        C.due(what, due, () -> call.on(x));
    }

    private static void refuses(String what, Class<? extends Exception> want, Story story, Call call) {
        Filterbench x = story.tell();
        C.refuses(what, want, () -> call.on(x));
        List<Object> due = answers(story.tell());
        C.due(what + ": changes nothing", due, () -> answers(x));
    }

    /** All of the numbers from low to high are taken, and those beyond are refused. */
    private static void edges(String what, Class<? extends Exception> want, int low, int high, Story story,
            NumberCall call) {
        for (int number : new int[] {low, Math.min(low + 1, high), Math.max(high - 1, low), high}) {
            Filterbench x = story.tell();
            C.due(what + " " + number + " is taken", true, () -> !isRefused(x, call, number));
        }
        for (int number : new int[] {low - 1, high + 1, Integer.MIN_VALUE, Integer.MAX_VALUE}) {
            refuses(what + " " + number, want, story, x -> call.on(x, number));
        }
    }

    private static boolean isRefused(Filterbench x, NumberCall call, int number) {
        return Check.answerOf(() -> call.on(x, number)).toString().startsWith("throws.");
    }

    // ---- mails

    private static void mail() {
        edges("mail: sender", ARGUMENT, 0, 9, RefusedCallsTest::busy, (x, n) -> x.mail(n, 1, 0, 0, 1));
        edges("mail: receivers", ARGUMENT, 1, 1023, RefusedCallsTest::busy, (x, n) -> x.mail(0, n, 0, 0, 1));
        edges("mail: subject", ARGUMENT, 0, 65535, RefusedCallsTest::busy, (x, n) -> x.mail(0, 1, n, 0, 1));
        edges("mail: body", ARGUMENT, 0, 65535, RefusedCallsTest::busy, (x, n) -> x.mail(0, 1, 0, n, 1));
        edges("mail: size", ARGUMENT, 1, 999, RefusedCallsTest::busy, (x, n) -> x.mail(0, 1, 0, 0, n));
        Filterbench x = new Filterbench();
        for (int i = 0; i < 40; i++) {
            int number = i;
            C.due("mail: number " + i, number, () -> Sorter.mail(x));
        }
        refuses("mail: the 41st", STATE, RefusedCallsTest::fullOfMails, y -> y.mail(3, 2, 4, 8, 7));
        refuses("mail: the 41st, a size of 0", ARGUMENT, RefusedCallsTest::fullOfMails, y -> Sorter.mail(y, 0));
        refuses("mail: the 41st, person 10", ARGUMENT, RefusedCallsTest::fullOfMails, y -> y.mail(10, 1, 0, 0, 1));
    }

    private static void pass() {
        edges("pass", ARGUMENT, 1, 100, RefusedCallsTest::busy, Filterbench::pass);
        takes("pass: the day", 5, RefusedCallsTest::busy, x -> x.pass(1));
        takes("pass: 100 days", 104, RefusedCallsTest::busy, x -> x.pass(100));
    }

    private static void setQuota() {
        edges("setQuota: box", INDEX, 1, 7, RefusedCallsTest::busy, (x, n) -> x.setQuota(n, 7));
        edges("setQuota: quota", ARGUMENT, 0, 9999, RefusedCallsTest::busy, (x, n) -> x.setQuota(3, n));
        refuses("setQuota: box 0 and quota -1", INDEX, RefusedCallsTest::busy, x -> x.setQuota(0, -1));
        refuses("setQuota: box 8 and quota 10000", INDEX, RefusedCallsTest::busy, x -> x.setQuota(8, 10000));
        takes("setQuota: the quota before", 500, RefusedCallsTest::busy, x -> x.setQuota(3, 9999));
    }

    private static void inBox() {
        edges("inBox", INDEX, 0, 7, RefusedCallsTest::busy, Filterbench::inBox);
        edges("inBox: of a new object", INDEX, 0, 7, RefusedCallsTest::empty, Filterbench::inBox);
    }

    private static void boxOf() {
        for (int number : new int[] {-1, MAILS, Integer.MIN_VALUE, Integer.MAX_VALUE}) {
            refuses("boxOf: " + number, INDEX, RefusedCallsTest::busy, x -> x.boxOf(number));
        }
        takes("boxOf: the first mail", 3, RefusedCallsTest::busy, x -> x.boxOf(0));
        refuses("boxOf: gone", ELEMENT, RefusedCallsTest::busy, x -> x.boxOf(GONE));
        takes("boxOf: moved", 6, RefusedCallsTest::busy, x -> x.boxOf(4));
        refuses("boxOf: not delivered", ELEMENT, RefusedCallsTest::busy, x -> x.boxOf(NEVER_DELIVERED));
        refuses("boxOf: no mails", INDEX, RefusedCallsTest::empty, x -> x.boxOf(0));
        takes("boxOf: the 40th mail", 0, () -> {
            Filterbench x = fullOfMails();
            x.clear(0);
            x.deliver(39);
            return x;
        }, x -> x.boxOf(39));
        refuses("boxOf: a 41st mail", INDEX, RefusedCallsTest::fullOfMails, x -> x.boxOf(40));
    }

    private static void hasFlag() {
        edges("hasFlag: mail", INDEX, 0, NEVER_DELIVERED, RefusedCallsTest::busy, (x, n) -> x.hasFlag(n, 2));
        edges("hasFlag: flag", INDEX, 0, 7, RefusedCallsTest::busy, (x, n) -> x.hasFlag(0, n));
        edges("hasFlag: flag of a gone mail", INDEX, 0, 7, RefusedCallsTest::busy, (x, n) -> x.hasFlag(GONE, n));
        edges("hasFlag: mail of 40", INDEX, 0, 39, RefusedCallsTest::fullOfMails, (x, n) -> x.hasFlag(n, 7));
        refuses("hasFlag: no mails", INDEX, RefusedCallsTest::empty, x -> x.hasFlag(0, 0));
    }

    private static void move() {
        edges("move: box", INDEX, 0, 7, RefusedCallsTest::busy, (x, n) -> x.move(0, n));
        refuses("move: gone", ELEMENT, RefusedCallsTest::busy, x -> x.move(GONE, 1));
        takes("move: moved", 6, RefusedCallsTest::busy, x -> x.move(4, 1));
        refuses("move: not delivered", ELEMENT, RefusedCallsTest::busy, x -> x.move(NEVER_DELIVERED, 1));
        refuses("move: no mail", INDEX, RefusedCallsTest::busy, x -> x.move(MAILS, 1));
        refuses("move: mail -1", INDEX, RefusedCallsTest::busy, x -> x.move(-1, 1));
        refuses("move: gone, to box 8", INDEX, RefusedCallsTest::busy, x -> x.move(GONE, 8));
        refuses("move: not delivered, to box -1", INDEX, RefusedCallsTest::busy, x -> x.move(NEVER_DELIVERED, -1));
        refuses("move: no mails", INDEX, RefusedCallsTest::empty, x -> x.move(0, 0));
    }

    // ---- tests and rules

    private static void testNumbers() {
        char[] kinds = {'f', 't', 's', 'b', 'z', 'd', 'n', 'k'};
        int[] lows = {0, 0, 0, 0, 0, 0, 1, 0};
        int[] highs = {9, 9, 15, 15, 999, 6, 10, 7};
        for (int i = 0; i < kinds.length; i++) {
            char kind = kinds[i];
            edges("test: " + kind, ARGUMENT, lows[i], highs[i], RefusedCallsTest::busy, (x, n) -> x.test(kind, n, 0));
            for (int b : new int[] {-1, TESTS, Integer.MIN_VALUE, Integer.MAX_VALUE}) {
                takes("test: " + kind + ", b has no meaning", TESTS, RefusedCallsTest::busy, x -> x.test(kind, 1, b));
            }
        }
        for (int number : new int[] {Integer.MIN_VALUE, -1, TESTS, Integer.MAX_VALUE}) {
            takes("test: a, no meaning", TESTS, RefusedCallsTest::busy, x -> x.test('a', number, number));
        }
    }

    private static void testParts() {
        edges("test: part of !", INDEX, 0, TESTS - 1, RefusedCallsTest::busy, (x, n) -> x.test('!', n, -1));
        for (char kind : new char[] {'&', '|'}) {
            edges("test: first of " + kind, INDEX, 0, TESTS - 1, RefusedCallsTest::busy, (x, n) -> x.test(kind, n, 0));
            edges("test: second of " + kind, INDEX, 0, TESTS - 1, RefusedCallsTest::busy, (x, n) -> x.test(kind, 0, n));
            refuses("test: no tests for " + kind, INDEX, RefusedCallsTest::empty, x -> x.test(kind, 0, 0));
        }
        takes("test: ! without a second part", TESTS, RefusedCallsTest::busy, x -> x.test('!', 0, TESTS + 1));
        refuses("test: no test for !", INDEX, RefusedCallsTest::empty, x -> x.test('!', 0, 0));
    }

    private static void testKinds() {
        String kinds = "aftsbzdnk!&|";
        for (char kind = 0; kind < 300; kind++) {
            char asked = kind;
            if (kinds.indexOf(kind) >= 0) {
                takes("test: kind " + kind, TESTS, RefusedCallsTest::busy, x -> x.test(asked, 1, 1));
            } else {
                refuses("test: kind number " + (int) kind, ARGUMENT, RefusedCallsTest::busy, x -> x.test(asked, 1, 1));
            }
        }
        refuses("test: kind number 65535", ARGUMENT, RefusedCallsTest::busy, x -> x.test((char) 65535, 1, 1));
        refuses("test: no kind, no part", ARGUMENT, RefusedCallsTest::busy, x -> x.test('x', -1, -1));
    }

    private static void testFull() {
        takes("test: the 59th", 58, () -> withTests(58), x -> x.test('&', 57, 0));
        takes("test: the 60th", 59, () -> withTests(59), x -> x.test('&', 58, 58));
        for (char kind : "aftsbzdnk!&|".toCharArray()) {
            refuses("test: the 61st, " + kind, STATE, RefusedCallsTest::fullOfTests, x -> x.test(kind, 1, 1));
        }
        refuses("test: the 61st, its part the 60th", STATE, RefusedCallsTest::fullOfTests, x -> x.test('!', 59, 0));
        refuses("test: the 61st, no part", INDEX, RefusedCallsTest::fullOfTests, x -> x.test('!', 60, 0));
        refuses("test: the 61st, no second part", INDEX, RefusedCallsTest::fullOfTests, x -> x.test('&', 0, 60));
        refuses("test: the 61st, no kind", ARGUMENT, RefusedCallsTest::fullOfTests, x -> x.test('x', 0, 0));
        refuses("test: the 61st, size 1000", ARGUMENT, RefusedCallsTest::fullOfTests, x -> x.test('z', 1000, 0));
    }

    private static void holds() {
        edges("holds: test", INDEX, 0, TESTS - 1, RefusedCallsTest::busy, (x, n) -> x.holds(n, 0));
        edges("holds: test of 60", INDEX, 0, 59, RefusedCallsTest::fullOfTests, (x, n) -> x.holds(n, 0));
        edges("holds: mail", INDEX, 0, NEVER_DELIVERED, RefusedCallsTest::busy, (x, n) -> x.holds(0, n));
        edges("holds: mail of 40", INDEX, 0, 39, RefusedCallsTest::fullOfMails, (x, n) -> x.holds(0, n));
        refuses("holds: nothing", INDEX, RefusedCallsTest::empty, x -> x.holds(0, 0));
    }

    private static void rule() {
        edges("rule: script", INDEX, 0, 3, RefusedCallsTest::busy, (x, n) -> x.rule(n, 0));
        edges("rule: test", INDEX, 0, TESTS - 1, RefusedCallsTest::busy, (x, n) -> x.rule(3, n));
        edges("rule: test of 60", INDEX, 0, 59, RefusedCallsTest::fullOfTests, (x, n) -> x.rule(3, n));
        Filterbench x = busy();
        for (int i = 0; i < 12; i++) {
            int number = i;
            C.due("rule: number " + i, number, () -> x.rule(3, 0));
        }
        refuses("rule: the 13th", STATE, RefusedCallsTest::fullOfRules, y -> y.rule(3, 0));
        refuses("rule: the 13th, no test", INDEX, RefusedCallsTest::fullOfRules, y -> y.rule(3, TESTS));
        takes("rule: of another script", 1, RefusedCallsTest::fullOfRules, y -> y.rule(1, 0));
        refuses("rule: no test at all", INDEX, RefusedCallsTest::empty, y -> y.rule(0, 0));
    }

    private static void actionNumbers() {
        char[] kinds = {'m', 'c', 'w', 'F', 'U', 'v', 'i'};
        int[] lows = {0, 0, 0, 0, 0, 1, 0};
        int[] highs = {7, 7, 9, 7, 7, 30, 3};
        for (int i = 0; i < kinds.length; i++) {
            char kind = kinds[i];
            edges("action: " + kind, ARGUMENT, lows[i], highs[i], RefusedCallsTest::busy,
                (x, n) -> x.action(0, 3, kind, n));
        }
        for (char kind : "kxrsS".toCharArray()) {
            for (int number : new int[] {Integer.MIN_VALUE, -1, 1000, Integer.MAX_VALUE}) {
                takes("action: " + kind + ", no meaning", 3, RefusedCallsTest::busy,
                    x -> x.action(0, 3, kind, number));
            }
        }
    }

    private static void actionKinds() {
        String kinds = "mkxrcwFUvisS";
        for (char kind = 0; kind < 300; kind++) {
            char asked = kind;
            if (kinds.indexOf(kind) >= 0) {
                takes("action: kind " + kind, 3, RefusedCallsTest::busy, x -> x.action(0, 3, asked, 1));
            } else {
                refuses("action: kind number " + (int) kind, ARGUMENT, RefusedCallsTest::busy,
                    x -> x.action(0, 3, asked, 1));
            }
        }
        refuses("action: kind number 65535", ARGUMENT, RefusedCallsTest::busy, x -> x.action(0, 3, (char) 65535, 1));
    }

    private static void actionFull() {
        edges("action: script", INDEX, 0, 2, RefusedCallsTest::busy, (x, n) -> x.action(n, 0, 'k', 0));
        edges("action: rule", INDEX, 0, 3, RefusedCallsTest::busy, (x, n) -> x.action(0, n, 'F', 0));
        edges("action: rule of 12", INDEX, 0, 11, RefusedCallsTest::fullOfRules, (x, n) -> x.action(3, n, 'F', 0));
        Filterbench x = busy();
        x.rule(3, 0);
        for (int i = 1; i <= 5; i++) {
            int count = i;
            C.due("action: number " + i, count, () -> x.action(3, 0, 'F', 0));
        }
        for (char kind : "mkxrcwFUvisS".toCharArray()) {
            refuses("action: the 6th, " + kind, STATE, RefusedCallsTest::fullOfActions, y -> y.action(3, 0, kind, 1));
        }
        refuses("action: the 6th, box 8", ARGUMENT, RefusedCallsTest::fullOfActions, y -> y.action(3, 0, 'm', 8));
        refuses("action: the 6th, no kind", ARGUMENT, RefusedCallsTest::fullOfActions, y -> y.action(3, 0, 'f', 1));
        refuses("action: no rule, no kind", INDEX, RefusedCallsTest::fullOfActions, y -> y.action(3, 1, 'f', 1));
        refuses("action: no script, box 8", INDEX, RefusedCallsTest::fullOfActions, y -> y.action(4, 0, 'm', 8));
        refuses("action: no rules", INDEX, RefusedCallsTest::empty, y -> y.action(0, 0, 'k', 0));
        refuses("action: a rule that was cleared away", INDEX, () -> {
            Filterbench y = busy();
            y.clear(0);
            return y;
        }, y -> y.action(0, 0, 'k', 0));
    }

    private static void clear() {
        edges("clear", INDEX, 0, 3, RefusedCallsTest::busy, Filterbench::clear);
        takes("clear: none", 0, RefusedCallsTest::busy, x -> x.clear(3));
        takes("clear: one", 1, RefusedCallsTest::busy, x -> x.clear(1));
        takes("clear: twelve", 12, RefusedCallsTest::fullOfRules, x -> x.clear(3));
    }

    private static void reorder() {
        edges("reorder: script", INDEX, 0, 2, RefusedCallsTest::busy, (x, n) -> x.reorder(n, 0, 0));
        edges("reorder: rule", INDEX, 0, 3, RefusedCallsTest::busy, (x, n) -> x.reorder(0, n, 1));
        edges("reorder: place", INDEX, 0, 3, RefusedCallsTest::busy, (x, n) -> x.reorder(0, 1, n));
        edges("reorder: rule of 12", INDEX, 0, 11, RefusedCallsTest::fullOfRules, (x, n) -> x.reorder(3, n, 11));
        edges("reorder: place of 12", INDEX, 0, 11, RefusedCallsTest::fullOfRules, (x, n) -> x.reorder(3, 0, n));
        refuses("reorder: no rules", INDEX, RefusedCallsTest::empty, x -> x.reorder(0, 0, 0));
        edges("reorder: the only rule", INDEX, 0, 0, RefusedCallsTest::busy, (x, n) -> x.reorder(1, n, n));
    }

    // ---- deliveries and tries

    private static void deliver() {
        edges("deliver", INDEX, 0, NEVER_DELIVERED, RefusedCallsTest::busy, Filterbench::deliver);
        edges("deliver: of 40", INDEX, 0, 39, RefusedCallsTest::fullOfMails, Filterbench::deliver);
        refuses("deliver: no mails", INDEX, RefusedCallsTest::empty, x -> x.deliver(0));
    }

    private static void attempt() {
        edges("attempt: script", INDEX, 0, 3, RefusedCallsTest::busy, (x, n) -> x.attempt(n, 0));
        edges("attempt: mail", INDEX, 0, NEVER_DELIVERED, RefusedCallsTest::busy, (x, n) -> x.attempt(1, n));
        edges("attempt: of 40", INDEX, 0, 39, RefusedCallsTest::fullOfMails, (x, n) -> x.attempt(0, n));
        refuses("attempt: no mails", INDEX, RefusedCallsTest::empty, x -> x.attempt(0, 0));
    }

    private static void doneAt() {
        // The last delivery of the busy sorter did F, v, w, c, four i, and the m of the innermost script.
        takes("doneAt: how many", 9, RefusedCallsTest::busy, Filterbench::done);
        edges("doneAt", INDEX, 0, 8, RefusedCallsTest::busy, Filterbench::doneAt);
        refuses("doneAt: nothing was done", INDEX, RefusedCallsTest::empty, x -> x.doneAt(0));
        edges("doneAt: two actions", INDEX, 0, 1, () -> {
            Filterbench x = busy();
            x.attempt(0, GONE);
            return x;
        }, Filterbench::doneAt);
    }

    private static void faults() {
        for (char kind = 0; kind < 300; kind++) {
            char asked = kind;
            if ("iwq".indexOf(kind) < 0) {
                refuses("faults: kind number " + (int) kind, ARGUMENT, RefusedCallsTest::busy, x -> x.faults(asked));
            }
        }
        takes("faults: i", 1, RefusedCallsTest::busy, x -> x.faults('i'));
        takes("faults: w", 1, RefusedCallsTest::busy, x -> x.faults('w'));
        takes("faults: q", 1, RefusedCallsTest::busy, x -> x.faults('q'));
    }

    private static void persons() {
        edges("replies", INDEX, 0, 9, RefusedCallsTest::busy, Filterbench::replies);
        edges("forwarded", INDEX, 0, 9, RefusedCallsTest::busy, Filterbench::forwarded);
        takes("replies: nobody", 0, RefusedCallsTest::empty, x -> x.replies(9));
        takes("forwarded: nobody", 0, RefusedCallsTest::empty, x -> x.forwarded(9));
    }

    private static void difference() {
        edges("difference: script", INDEX, 0, 3, RefusedCallsTest::busy, (x, n) -> x.difference(n, 0));
        edges("difference: other", INDEX, 0, 3, RefusedCallsTest::busy, (x, n) -> x.difference(0, n));
        edges("difference: no mails", INDEX, 0, 3, RefusedCallsTest::empty, (x, n) -> x.difference(n, n));
    }

    // ---- rules and learning

    private static void isShadowed() {
        edges("isShadowed: script", INDEX, 0, 2, RefusedCallsTest::busy, (x, n) -> x.isShadowed(n, 0));
        edges("isShadowed: rule", INDEX, 0, 3, RefusedCallsTest::busy, (x, n) -> x.isShadowed(0, n));
        edges("isShadowed: of 12", INDEX, 0, 11, RefusedCallsTest::fullOfRules, (x, n) -> x.isShadowed(3, n));
        refuses("isShadowed: no rules", INDEX, RefusedCallsTest::empty, x -> x.isShadowed(0, 0));
    }

    private static void areSame() {
        edges("areSame: test", INDEX, 0, TESTS - 1, RefusedCallsTest::busy, (x, n) -> x.areSame(n, 0));
        edges("areSame: other", INDEX, 0, TESTS - 1, RefusedCallsTest::busy, (x, n) -> x.areSame(0, n));
        edges("areSame: of 60", INDEX, 0, 59, RefusedCallsTest::fullOfTests, (x, n) -> x.areSame(n, n));
        refuses("areSame: no tests", INDEX, RefusedCallsTest::empty, x -> x.areSame(0, 0));
    }

    private static void learn() {
        for (int number : new int[] {-1, 8, Integer.MIN_VALUE, Integer.MAX_VALUE}) {
            refuses("learn: box " + number, INDEX, RefusedCallsTest::busy, x -> x.learn(number));
        }
        for (int box : new int[] {0, 1, 2, 3, 7}) {
            refuses("learn: nothing was moved to " + box, ELEMENT, RefusedCallsTest::busy, x -> x.learn(box));
        }
        refuses("learn: no test is found", ELEMENT, RefusedCallsTest::twins, x -> x.learn(7));
        refuses("learn: no test is found for box 0", ELEMENT, RefusedCallsTest::twins, x -> x.learn(0));
    }

    /** The mails 0 and 3 are as like as can be, and so are 1 and 4; of each two, one alone was moved. */
    private static Filterbench twins() {
        Filterbench x = new Filterbench();
        for (int i = 0; i < MAILS; i++) {
            x.mail(i % 3, 1, 0, 0, 10);
            x.deliver(i);
        }
        x.move(0, 7);
        x.move(1, 0);
        return x;
    }

    private static void learnFull() {
        // All mail but that of box 5 is from person 1, so that it takes two tests: the sender is not 1.
        takes("learn: the 59th test", 58, () -> withTests(57), x -> x.learn(5));
        takes("learn: the 60th test", 59, () -> withTests(58), x -> x.learn(5));
        refuses("learn: the 61st test", STATE, () -> withTests(59), x -> x.learn(5));
        refuses("learn: the 61st and 62nd test", STATE, RefusedCallsTest::fullOfTests, x -> x.learn(5));
        refuses("learn: no mail, and no room", ELEMENT, RefusedCallsTest::fullOfTests, x -> x.learn(4));
        refuses("learn: no box, and no room", INDEX, RefusedCallsTest::fullOfTests, x -> x.learn(8));
        refuses("learn: no test is found, and no room", ELEMENT, () -> {
            Filterbench x = twins();
            for (int i = 0; i < 60; i++) {
                x.test('a', 0, 0);
            }
            return x;
        }, x -> x.learn(7));
    }

    private static void means() {
        refuses("goneShare: no mails", ARITHMETIC, RefusedCallsTest::empty, Filterbench::goneShare);
        refuses("goneShare: none delivered", ARITHMETIC, () -> {
            Filterbench x = new Filterbench();
            Sorter.mail(x);
            return x;
        }, Filterbench::goneShare);
        takes("goneShare: one delivered", 0.0f, () -> {
            Filterbench x = new Filterbench();
            Sorter.delivered(x, 5);
            return x;
        }, Filterbench::goneShare);
        for (int box : new int[] {-1, 8, Integer.MIN_VALUE, Integer.MAX_VALUE}) {
            refuses("meanSize: box " + box, INDEX, RefusedCallsTest::busy, x -> x.meanSize(box));
            refuses("meanSize: box " + box + ", no mails", INDEX, RefusedCallsTest::empty, x -> x.meanSize(box));
        }
        // Of box 1 there are copies alone; the 'c' of the quota 10 in box 4 was a fault.
        refuses("meanSize: copies alone", ARITHMETIC, RefusedCallsTest::busy, x -> x.meanSize(1));
        takes("meanSize: there are copies", 470, RefusedCallsTest::busy, x -> x.inBox(1));
        refuses("meanSize: the first box, none in it", ARITHMETIC, RefusedCallsTest::empty, x -> x.meanSize(0));
        refuses("meanSize: the last box, none in it", ARITHMETIC, RefusedCallsTest::busy, x -> x.meanSize(7));
        takes("meanSize: one in it", 300.0, RefusedCallsTest::busy, x -> x.meanSize(5));
    }
}
