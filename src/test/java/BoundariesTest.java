import java.util.NoSuchElementException;

/**
 * The boundaries that the section "Terms" names, sentence by sentence: one step inside, the boundary itself, and one
 * step beyond it. What a call refuses stands in RefusedCallsTest; rules and learning in ReasoningBoundariesTest.
 */
public final class BoundariesTest {
    private static final Class<NoSuchElementException> ELEMENT = NoSuchElementException.class;
    private static final Class<ArithmeticException> ARITHMETIC = ArithmeticException.class;

    private static final Check C = new Check();

    public static void main(String[] args) {
        lastCall();
        fortyMails();
        senders();
        receivers();
        words();
        sizes();
        numbersOfReceivers();
        weekdays();
        beforeTheFirstDelivery();
        fromTheFirstDeliveryOn();
        sixtyTests();
        joinedTests();
        flagsNow();
        flagsByHand();
        rulesInTheirOrder();
        scriptsByThemselves();
        actionsInTheirOrder();
        endOfAScript();
        endOfAll();
        replyDays();
        replyPersons();
        oneReplyAtMost();
        firstOneCounts();
        sendingOut();
        keptAtTheEnd();
        withinFourOthers();
        withinFourAndOn();
        forwardPersons();
        forwardedBefore();
        twoHundredActions();
        oneMoreAction();
        noneBehindTheEnd();
        clashesBehindTwoHundred();
        faultsBehindTwoHundred();
        nestingFaultBehindTwoHundred();
        firstQuotas();
        roomByMails();
        roomByCopies();
        roomAtTheEdges();
        overTheQuota();
        noQuotaOfBoxZero();
        mailItselfIsInNoBox();
        quotaBelowWhatIsThere();
        movedByHand();
        deliveredAgain();
        notGoneAnyMore();
        tryChangesNothing();
        outcomes();
        lastOfAll();
        differences();
        sums();
        shares();
        C.end();
    }

    // ---- "An object is used for at most 512 calls."

    private static void lastCall() {
        Filterbench days = new Filterbench();
        for (int call = 1; call < 512; call++) {
            days.pass(100);
        }
        C.due("the 512th call", 51200, () -> days.pass(100));
        Filterbench week = new Filterbench();
        for (int call = 1; call < 510; call++) {
            week.pass(100);
        }
        int mail = Sorter.mail(week);
        int day = week.test('d', 50900 % 7, 0);
        C.due("the 512th call, by the weekday of the day 50900", true, () -> week.holds(day, mail));
        Filterbench many = Sorter.with('v', 1, 'c', 0, 'w', 9);
        Sorter.mail(many, 999);
        for (int call = 7; call < 509; call++) {
            many.deliver(0);
        }
        C.due("the 509th call: copies", 503 * 999, () -> many.inBox(0));
        C.due("the 510th call: forwards", 502, () -> many.forwarded(9));
        C.due("the 511th call: replies", 1, () -> many.replies(1));
        C.due("the 512th call: done", 3, many::done);
    }

    // ---- Mails

    /** "At most 40 mails are numbered from 0." */
    private static void fortyMails() {
        Filterbench x = Sorter.with('c', 1, 'm', 2);
        x.setQuota(1, 9999);
        x.setQuota(2, 9999);
        for (int i = 0; i < 40; i++) {
            int number = i;
            C.due("mail " + i, number, () -> Sorter.mail(x, 200 + number));
        }
        C.refuses("the 41st mail", IllegalStateException.class, () -> Sorter.mail(x));
        C.due("the 40th mail is sorted", 2, () -> x.deliver(39));
        C.due("the 40th mail has its size", 239, () -> x.inBox(2));
        C.due("the 39th mail is sorted", 2, () -> x.deliver(38));
        C.due("both", 239 + 238, () -> x.inBox(2));
        C.due("all", 40L * 200 + 39 * 20, x::sum);
        C.due("all differ", 40, () -> x.difference(0, 1));
    }

    /** "The sender, a person 0 to 9"; "'f' the sender is a". */
    private static void senders() {
        Filterbench x = new Filterbench();
        int everybody = 1023;
        for (int person = 0; person < 10; person++) {
            x.test('f', person, 0);
            x.mail(person, everybody, 65535, 65535, 1);
        }
        for (int mail = 0; mail < 10; mail++) {
            dueNumbers(x, "sender " + mail, mail, 10, 1 << mail);
        }
    }

    /** "Receivers, at least one, as bits"; "'t' a is among the receivers". */
    private static void receivers() {
        Filterbench x = new Filterbench();
        for (int person = 0; person < 10; person++) {
            x.test('t', person, 0);
        }
        int[] sets = {1, 2, 3, 256, 511, 512, 513, 1022, 1023};
        for (int set : sets) {
            int mail = x.mail(9 - Integer.numberOfTrailingZeros(set), set, 0, 0, 1);
            dueNumbers(x, "receivers " + set, mail, 10, set);
        }
    }

    /** "The words of its subject and those of its body, 0 to 15, as bits". */
    private static void words() {
        int[] sets = {0, 1, 2, 16384, 32767, 32768, 65534, 65535, 21845};
        for (int set : sets) {
            Filterbench subject = new Filterbench();
            Filterbench body = new Filterbench();
            for (int word = 0; word < 16; word++) {
                subject.test('s', word, 0);
                body.test('b', word, 0);
            }
            subject.mail(0, 1, set, 65535 - set, 1);
            body.mail(0, 1, 65535 - set, set, 1);
            dueNumbers(subject, "subject " + set, 0, 16, set);
            dueNumbers(body, "body " + set, 0, 16, set);
        }
    }

    /** The tests from 0 on hold for the mail as the bits say. */
    private static void dueNumbers(Filterbench x, String what, int mail, int tests, int bits) {
        for (int i = 0; i < tests; i++) {
            int test = i;
            C.due(what + ", " + i, (bits >> i & 1) == 1, () -> x.holds(test, mail));
        }
    }

    /** "A size, 1 to 999"; "'z' the size is greater than a". */
    private static void sizes() {
        int[] sizes = {1, 2, 3, 500, 998, 999};
        int[] bounds = {0, 1, 2, 3, 499, 500, 501, 997, 998, 999};
        Filterbench x = new Filterbench();
        for (int bound : bounds) {
            x.test('z', bound, 0);
        }
        for (int size : sizes) {
            int mail = Sorter.mail(x, size);
            for (int i = 0; i < bounds.length; i++) {
                int test = i;
                C.due("size " + size + " over " + bounds[i], size > bounds[i], () -> x.holds(test, mail));
            }
        }
    }

    /** "'n' it has at least a receivers". */
    private static void numbersOfReceivers() {
        Filterbench x = new Filterbench();
        for (int a = 1; a <= 10; a++) {
            x.test('n', a, 0);
        }
        int set = 0;
        for (int number = 1; number <= 10; number++) {
            set |= 1 << (7 * number) % 10;
            int mail = x.mail(0, set, 0, 0, 1);
            for (int a = 1; a <= 10; a++) {
                int test = a - 1;
                C.due(number + " receivers, at least " + a, number >= a, () -> x.holds(test, mail));
            }
        }
    }

    /** "The day on which it came"; "the weekday is the day modulo 7". */
    private static void weekdays() {
        Filterbench x = new Filterbench();
        for (int day = 0; day < 7; day++) {
            x.test('d', day, 0);
        }
        for (int day = 0; day < 16; day++) {
            Sorter.mail(x);
            x.pass(1);
        }
        for (int mail = 0; mail < 16; mail++) {
            dueNumbers(x, "day " + mail, mail, 7, 1 << mail % 7);
        }
        x.pass(83);
        int day99 = Sorter.mail(x);
        x.pass(100);
        int day199 = Sorter.mail(x);
        dueNumbers(x, "day 99", day99, 7, 1 << 1);
        dueNumbers(x, "day 199", day199, 7, 1 << 3);
        x.deliver(day99);
        dueNumbers(x, "delivered 100 days later", day99, 7, 1 << 1);
    }

    /** "From its first delivery on, a box, flags 0 to 7, and whether it is gone". */
    private static void beforeTheFirstDelivery() {
        Filterbench x = Sorter.with('F', 0, 'F', 7, 'm', 1);
        int mail = Sorter.mail(x);
        int has = x.test('k', 0, 0);
        x.attempt(0, mail);
        C.refuses("tried alone: no box", ELEMENT, () -> x.boxOf(mail));
        C.refuses("tried alone: not moved", ELEMENT, () -> x.move(mail, 1));
        C.due("tried alone: no first flag", false, () -> x.hasFlag(mail, 0));
        C.due("tried alone: no last flag", false, () -> x.hasFlag(mail, 7));
        C.due("tried alone: 'k' does not hold", false, () -> x.holds(has, mail));
        C.due("tried alone: in no box", 0, () -> x.inBox(0) + x.inBox(1));
        C.refuses("tried alone: of no mean", ARITHMETIC, () -> x.meanSize(1));
        C.refuses("tried alone: of no share", ARITHMETIC, x::goneShare);
        C.due("tried alone: in the sum", 100L, x::sum);
    }

    private static void fromTheFirstDeliveryOn() {
        Filterbench x = Sorter.with('F', 0, 'F', 7, 'm', 1);
        int mail = Sorter.mail(x);
        int other = Sorter.mail(x);
        int has = x.test('k', 7, 0);
        x.deliver(mail);
        C.due("delivered: a box", 1, () -> x.boxOf(mail));
        for (int i = 0; i < 8; i++) {
            int flag = i;
            C.due("delivered: flag " + i, i == 0 || i == 7, () -> x.hasFlag(mail, flag));
        }
        C.due("delivered: 'k' holds", true, () -> x.holds(has, mail));
        C.due("delivered: not for another one", false, () -> x.holds(has, other));
        C.due("delivered: in the box", 100, () -> x.inBox(1));
        C.due("delivered: its mean", 100.0, () -> x.meanSize(1));
        C.due("delivered: its share", 0.0f, x::goneShare);
        C.refuses("delivered: another one has no box", ELEMENT, () -> x.boxOf(other));
    }

    // ---- Tests

    /** "At most 60 tests are numbered from 0, each made of earlier ones". */
    private static void sixtyTests() {
        Filterbench x = new Filterbench();
        x.test('a', 0, 0);
        for (int i = 1; i < 60; i++) {
            int number = i;
            C.due("test " + i, number, () -> x.test('!', number - 1, 0));
        }
        C.refuses("the 61st test", IllegalStateException.class, () -> x.test('!', 59, 0));
        int mail = Sorter.mail(x);
        for (int i = 0; i < 60; i++) {
            int test = i;
            C.due("test " + i + " holds", i % 2 == 0, () -> x.holds(test, mail));
        }
        Sorter.when(x, 0, 59, 'm', 1);
        C.due("a rule by the 60th test", 0, () -> x.attempt(0, mail));
        Sorter.when(x, 0, 58, 'm', 2);
        C.due("a rule by the 59th test", 2, () -> x.attempt(0, mail));
        C.due("the last ones are contrary", false, () -> x.areSame(58, 59));
        C.due("the last one is never true, as the second is", true, () -> x.areSame(59, 1));
    }

    /** "'!' not a; '&' a and b; '|' a or b". */
    private static void joinedTests() {
        Filterbench x = new Filterbench();
        int yes = x.test('a', 0, 0);
        int no = x.test('!', yes, 0);
        int mail = Sorter.mail(x);
        int[] parts = {yes, no};
        for (int a : parts) {
            for (int b : parts) {
                int and = x.test('&', a, b);
                int or = x.test('|', a, b);
                int nand = x.test('!', and, 0);
                C.due(a + " & " + b, a == yes && b == yes, () -> x.holds(and, mail));
                C.due(a + " | " + b, a == yes || b == yes, () -> x.holds(or, mail));
                C.due("not " + a + " & " + b, a == no || b == no, () -> x.holds(nand, mail));
            }
        }
    }

    /** "'k' it has the flag a now". */
    private static void flagsNow() {
        Filterbench x = new Filterbench();
        int always = x.test('a', 0, 0);
        int first = x.test('k', 0, 0);
        int last = x.test('k', 7, 0);
        int mail = Sorter.mail(x);
        Sorter.when(x, 0, first, 'F', 1);
        Sorter.when(x, 0, always, 'F', 0, 'F', 7, 'i', 1);
        Sorter.when(x, 0, first, 'F', 3);
        Sorter.when(x, 0, last, 'F', 4, 'U', 7, 'F', 5);
        Sorter.when(x, 0, last, 'F', 6);
        Sorter.when(x, 1, last, 'F', 2, 'U', 0);
        x.deliver(mail);
        C.due("flags now: set ahead, taken away within and by its own rule", 1 << 2 | 1 << 4 | 1 << 5, x::flags);
        C.dueDone("flags now", x, 10, 11, 12, 1000, 1001, 30, 31, 32);
        x.deliver(mail);
        C.dueDone("flags now: none at first", x, 10, 11, 12, 1000, 1001, 30, 31, 32);
    }

    private static void flagsByHand() {
        Filterbench x = Sorter.with('F', 3, 'F', 3, 'U', 4, 'F', 4);
        int mail = Sorter.mail(x);
        int three = x.test('k', 3, 0);
        x.deliver(mail);
        C.due("a flag that was set twice, and one that was taken away ahead", 1 << 3 | 1 << 4, x::flags);
        x.move(mail, 5);
        C.due("a moved mail has its flags", true, () -> x.holds(three, mail) && x.hasFlag(mail, 4));
        x.attempt(1, mail);
        C.due("a tried mail has its flags", true, () -> x.holds(three, mail) && x.hasFlag(mail, 4));
        C.due("the try left none", 0, x::flags);
    }

    // ---- Scripts

    /** "At most 12 rules in their order"; "if the test holds, its actions are done". */
    private static void rulesInTheirOrder() {
        Filterbench x = new Filterbench();
        int yes = x.test('a', 0, 0);
        int no = x.test('!', yes, 0);
        int mail = Sorter.mail(x);
        for (int rule = 0; rule < 12; rule++) {
            Sorter.when(x, 2, rule % 3 == 1 ? no : yes, 'F', rule % 8);
        }
        x.attempt(2, mail);
        C.dueDone("twelve rules, some of which do not hold", x, 2000, 2020, 2030, 2050, 2060, 2080, 2090, 2110);
        C.due("twelve rules: flags", 1 << 0 | 1 << 2 | 1 << 3 | 1 << 5 | 1 << 6 | 1 << 1, x::flags);
        x.reorder(2, 11, 1);
        x.attempt(2, mail);
        C.dueDone("the last one second", x, 2000, 2010, 2030, 2040, 2060, 2070, 2090, 2100);
        x.reorder(2, 1, 11);
        x.attempt(2, mail);
        C.dueDone("the second one last", x, 2000, 2020, 2030, 2050, 2060, 2080, 2090, 2110);
        C.due("clear: twelve", 12, () -> x.clear(2));
        x.attempt(2, mail);
        C.dueDone("no rules", x);
    }

    /** "There are the scripts 0 to 3". */
    private static void scriptsByThemselves() {
        Filterbench x = new Filterbench();
        x.test('a', 0, 0);
        int mail = Sorter.mail(x);
        for (int script = 0; script < 4; script++) {
            Sorter.always(x, script, 'm', script + 2);
        }
        for (int i = 0; i < 4; i++) {
            int script = i;
            C.due("script " + i, script + 2, () -> x.attempt(script, mail));
            C.dueDone("script " + i, x, 1000 * script);
        }
        C.due("a delivery is by the script 0", 2, () -> x.deliver(mail));
        x.clear(0);
        C.due("script 3 stays", 5, () -> x.attempt(3, mail));
        C.due("script 0 is without rules", 0, () -> x.deliver(mail));
    }

    /** "At most 5 actions"; "its actions are done, one behind the other". */
    private static void actionsInTheirOrder() {
        Filterbench set = Sorter.with('U', 1, 'F', 1, 'U', 1, 'F', 2, 'F', 1);
        Sorter.mail(set);
        set.deliver(0);
        C.due("set last", 1 << 1 | 1 << 2, set::flags);
        C.dueDone("five actions", set, 0, 1, 2, 3, 4);
        Filterbench taken = Sorter.with('F', 1, 'U', 1, 'F', 1, 'F', 2, 'U', 1);
        Sorter.mail(taken);
        taken.deliver(0);
        C.due("taken away last", 1 << 2, taken::flags);
        Filterbench none = Sorter.with();
        Sorter.mail(none);
        C.due("no action", 0, () -> none.deliver(0));
        C.dueDone("no action", none);
    }

    /** "'s' ends the script that is done". */
    private static void endOfAScript() {
        Filterbench x = Sorter.with('F', 0, 'i', 1, 'F', 1);
        Sorter.always(x, 0, 'F', 2, 's', 0, 'F', 3);
        Sorter.always(x, 0, 'F', 4);
        Sorter.always(x, 1, 'i', 2, 's', 0, 'F', 5);
        Sorter.always(x, 1, 'F', 6);
        Sorter.always(x, 2, 's', 0, 'm', 7);
        Sorter.mail(x);
        C.due("'s': nothing behind it", 0, () -> x.deliver(0));
        C.due("'s': flags", 1 << 0 | 1 << 1 | 1 << 2, x::flags);
        C.dueDone("'s': the scripts around go on", x, 0, 1, 1000, 2000, 1001, 2, 10, 11);
        Filterbench fails = new Filterbench();
        int always = fails.test('a', 0, 0);
        Sorter.when(fails, 0, fails.test('!', always, 0), 's', 0);
        Sorter.when(fails, 0, always, 'm', 3);
        Sorter.mail(fails);
        C.due("'s' of a rule whose test does not hold", 3, () -> fails.deliver(0));
    }

    /** "'S' ends all, at once". */
    private static void endOfAll() {
        Filterbench x = Sorter.with('F', 0, 'i', 1, 'F', 1);
        Sorter.always(x, 0, 'm', 2);
        Sorter.always(x, 1, 'i', 2, 'F', 3);
        Sorter.always(x, 1, 'F', 4);
        Sorter.always(x, 2, 'F', 5, 'S', 0, 'F', 6);
        Sorter.always(x, 2, 'F', 7);
        Sorter.mail(x);
        C.due("'S': nothing behind it in any script", 0, () -> x.deliver(0));
        C.due("'S': flags", 1 << 0 | 1 << 5, x::flags);
        C.dueDone("'S'", x, 0, 1, 1000, 2000, 2001);
        C.due("'S': the next delivery is done again", 0, () -> x.deliver(0));
        C.dueDone("'S': again", x, 0, 1, 1000, 2000, 2001);
        Filterbench placed = Sorter.with('m', 4, 'S', 0, 'k', 0);
        Sorter.mail(placed);
        C.due("'S' behind an 'm'", 4, () -> placed.deliver(0));
        C.due("'S': no clash behind it", 0, placed::clashes);
    }

    /** "If none was sent to this person in the last a days, today included, 1 to 30". */
    private static void replyDays() {
        int[] days = {1, 2, 3, 29, 30};
        for (int a : days) {
            for (int gap = Math.max(a - 2, 0); gap <= a + 1; gap++) {
                dueReplies(0, a, gap);
                dueReplies(40, a, gap);
            }
            dueReplies(7, a, 0);
        }
    }

    /** A reply on the first day, and a 'v' with the number a that is done a gap of days behind it. */
    private static void dueReplies(int first, int a, int gap) {
        Filterbench x = Sorter.with('v', a);
        Sorter.mail(x);
        if (first > 0) {
            x.pass(first);
        }
        x.deliver(0);
        C.due("'v' " + a + ": none was sent before the day " + first, 1, () -> x.replies(1));
        if (gap > 0) {
            x.pass(gap);
        }
        x.deliver(0);
        C.due("'v' " + a + ", " + gap + " days behind a reply", gap >= a ? 2 : 1, () -> x.replies(1));
        C.due("'v' is done in any case", 1, x::done);
    }

    private static void replyPersons() {
        Filterbench x = Sorter.with('v', 30);
        int[] senders = {0, 0, 9, 8, 9};
        for (int sender : senders) {
            x.deliver(x.mail(sender, 2, 0, 0, 1));
        }
        int[] due = {1, 0, 0, 0, 0, 0, 0, 0, 1, 1};
        for (int i = 0; i < 10; i++) {
            int person = i;
            C.due("one reply for each person: " + i, due[i], () -> x.replies(person));
        }
        x.pass(29);
        x.deliver(4);
        C.due("by another mail of the same person, a day too early", 1, () -> x.replies(9));
        x.pass(1);
        x.deliver(4);
        C.due("by another mail of the same person", 2, () -> x.replies(9));
        C.due("nobody else", 1, () -> x.replies(8));
        x.pass(29);
        x.deliver(2);
        C.due("the last reply counts", 2, () -> x.replies(9));
    }

    /** "A reply of this delivery or try counts for a later 'v', so that there is one at most." */
    private static void oneReplyAtMost() {
        Filterbench x = Sorter.with('v', 1, 'v', 30, 'v', 1, 'i', 1);
        Sorter.always(x, 1, 'v', 1);
        Sorter.mail(x);
        x.attempt(0, 0);
        C.dueDone("a try: each 'v' is done", x, 0, 1, 2, 3, 1000);
        C.due("a try sends none", 0, () -> x.replies(1));
        x.deliver(0);
        C.dueDone("each 'v' is done", x, 0, 1, 2, 3, 1000);
        C.due("one reply at most", 1, () -> x.replies(1));
        x.attempt(0, 0);
        x.pass(1);
        x.deliver(0);
        C.due("a day later one more", 2, () -> x.replies(1));
        x.clear(0);
        Sorter.always(x, 0, 'v', 30, 'v', 4);
        x.pass(3);
        x.deliver(0);
        C.due("neither of two", 2, () -> x.replies(1));
        x.pass(1);
        x.deliver(0);
        C.due("the second of two alone", 3, () -> x.replies(1));
    }

    // ---- What excludes what

    /** "The first one that is done for a mail counts; another one behind it is a clash, and is not done." */
    private static void firstOneCounts() {
        char[] kinds = {'m', 'k', 'x', 'r'};
        int[] outcomes = {6, 0, 8, 9};
        for (int first = 0; first < 4; first++) {
            for (int second = 0; second < 4; second++) {
                Filterbench x = Sorter.with(kinds[first], 6, 'i', 1);
                Sorter.always(x, 0, kinds[3 - first], 5);
                Sorter.always(x, 1, kinds[second], 4);
                Sorter.mail(x);
                String what = "the first of " + kinds[first] + kinds[second];
                int outcome = outcomes[first];
                C.due(what, outcome, () -> x.deliver(0));
                C.due(what + ": clashes in other scripts and rules", 2, x::clashes);
                C.dueDone(what, x, 0, 1);
            }
        }
    }

    /** "'r' is a clash, too, behind a 'c', 'w' or 'v' that was done; 'c', 'w' and 'v' are a clash behind 'r'." */
    private static void sendingOut() {
        for (char kind : "cwv".toCharArray()) {
            Filterbench behind = Sorter.with(kind, 3, 'r', 0, 'F', 1);
            Sorter.mail(behind);
            C.due("'r' behind " + kind, 0, () -> behind.deliver(0));
            C.due("'r' behind " + kind + " is a clash", 1, behind::clashes);
            C.dueDone("'r' behind " + kind, behind, 0, 2);
            Filterbench ahead = Sorter.with('r', 0, kind, 3, 'F', 1);
            Sorter.mail(ahead);
            C.due(kind + " behind 'r'", 9, () -> ahead.deliver(0));
            C.due(kind + " behind 'r' is a clash", 1, ahead::clashes);
            C.dueDone(kind + " behind 'r'", ahead, 0, 2);
            C.due(kind + " behind 'r': nothing was sent", 0,
                () -> ahead.inBox(3) + ahead.forwarded(3) + ahead.replies(1));
            Filterbench both = Sorter.with('F', 1, kind, 3, 'r', 0, kind, 4, 'r', 0);
            Sorter.mail(both);
            both.deliver(0);
            C.due(kind + " behind an 'r' that was not done is none", 2, both::clashes);
            C.dueDone(kind + " behind an 'r' that was not done", both, 0, 1, 3);
        }
        Filterbench faulty = Sorter.with('w', 1, 'w', 0, 'c', 1, 'r', 0);
        faulty.setQuota(1, 99);
        Sorter.mail(faulty);
        C.due("'r' behind 'w' and 'c' that were not done", 9, () -> faulty.deliver(0));
        C.due("'r' behind faults is no clash", 0, faulty::clashes);
        Filterbench later = Sorter.with('c', 1, 'w', 2, 'v', 3);
        Sorter.mail(later);
        Sorter.always(later, 1, 'r', 0);
        later.deliver(0);
        C.due("'r' in a try behind a delivery that sent out", 9, () -> later.attempt(1, 0));
        C.due("'c', 'w' and 'v' behind a try that sent back", 3, () -> {
            later.deliver(0);
            return later.done();
        });
        Filterbench mute = Sorter.with('v', 30, 'r', 0);
        Sorter.mail(mute);
        mute.deliver(0);
        C.due("'r' behind a 'v' that sends no reply", 0, () -> mute.deliver(0));
        C.due("a 'v' that sends no reply is done", 1, mute::done);
        Filterbench flags = Sorter.with('F', 1, 'U', 2, 'r', 0, 'F', 3, 'i', 1);
        Sorter.mail(flags);
        C.due("'r' behind others", 9, () -> flags.deliver(0));
        C.due("others behind 'r'", 5, flags::done);
    }

    /** "If none of the four was done at the end, the mail is kept in the box 0." */
    private static void keptAtTheEnd() {
        Filterbench x = Sorter.with('c', 2, 'w', 3, 'v', 1, 'F', 4, 'r', 0);
        Sorter.always(x, 0, 'U', 1, 'i', 3, 's', 0);
        Sorter.mail(x);
        C.due("none of the four", 0, () -> x.deliver(0));
        C.due("none of the four: kept", 0, () -> x.boxOf(0));
        C.due("none of the four: in the box 0", 100, () -> x.inBox(0));
        C.due("none of the four: keeping counts none", 7, x::done);
        C.due("none of the four: not gone", 0.0f, x::goneShare);
    }

    /** "In a script that is done within 4 others, itself perhaps among them, 'i' is not done: it is a fault." */
    private static void withinFourOthers() {
        // With each of the four scripts in turn, so that the fifth one is the first one again.
        Filterbench x = new Filterbench();
        x.test('a', 0, 0);
        for (int script = 0; script < 4; script++) {
            Sorter.always(x, script, 'i', (script + 1) % 4, 'F', script);
        }
        Sorter.mail(x);
        for (int i = 0; i < 4; i++) {
            int start = i;
            x.attempt(start, 0);
            int second = (start + 1) % 4;
            int third = (start + 2) % 4;
            int fourth = (start + 3) % 4;
            C.dueDone("within four from " + start, x, 1000 * start, 1000 * second, 1000 * third, 1000 * fourth,
                1000 * start + 1, 1000 * fourth + 1, 1000 * third + 1, 1000 * second + 1, 1000 * start + 1);
            C.due("within four from " + start + ": one fault", 1, () -> x.faults('i'));
        }
        x.clear(3);
        x.attempt(0, 0);
        C.due("within three: no fault", 0, () -> x.faults('i'));
        C.dueDone("within three", x, 0, 1000, 2000, 2001, 1001, 1);
        x.attempt(3, 0);
        C.dueDone("within none", x);
    }

    private static void withinFourAndOn() {
        Filterbench x = new Filterbench();
        int always = x.test('a', 0, 0);
        int fresh = x.test('!', x.test('k', 7, 0), 0);
        Sorter.when(x, 0, always, 'i', 1, 'F', 0);
        Sorter.when(x, 1, always, 'i', 2, 'F', 1);
        Sorter.when(x, 2, always, 'i', 3, 'F', 2);
        Sorter.when(x, 3, fresh, 'F', 7, 'i', 3, 'i', 0, 'F', 3);
        Sorter.when(x, 3, x.test('k', 7, 0), 'i', 3, 'i', 2, 'F', 4, 's', 0, 'i', 1);
        Sorter.mail(x);
        x.deliver(0);
        // Within three others, the script 3 does itself, 0, itself and 2 within four, where each 'i' is a fault.
        C.due("within four: faults", 2 + 1 + 2 + 1, () -> x.faults('i'));
        C.dueDone("within four", x, 0, 1000, 2000, 3000, 3001, 3012, 3013, 3002, 1, 3003,
            3010, 3012, 3013, 3011, 2001, 3012, 3013, 2001, 1001, 1);
        Filterbench row = Sorter.with('i', 1, 'i', 1, 'i', 1, 'i', 1, 'i', 1);
        Sorter.always(row, 1, 'i', 2);
        Sorter.mail(row);
        row.deliver(0);
        C.due("five one behind the other are not within each other", 0, () -> row.faults('i'));
        C.due("five one behind the other", 10, row::done);
    }

    /** "To forward to the sender, or to somebody among the receivers ... is a fault, 'w', and not done." */
    private static void forwardPersons() {
        for (int i = 0; i < 10; i++) {
            int person = i;
            Filterbench x = Sorter.with('w', person, 'r', 0);
            int receivers = 1 | 1 << 9 | 1 << 4;
            x.mail(5, receivers, 0, 0, 1);
            boolean isRound = person == 5 || (receivers >> person & 1) == 1;
            C.due("forward to " + i + ": outcome", isRound ? 9 : 0, () -> x.deliver(0));
            C.due("forward to " + i + ": fault", isRound ? 1 : 0, () -> x.faults('w'));
            C.due("forward to " + i + ": sent", isRound ? 0 : 1, () -> x.forwarded(person));
            C.due("forward to " + i + ": done", 1, x::done);
            C.due("forward to " + i + ": clash", isRound ? 0 : 1, x::clashes);
        }
        Filterbench self = Sorter.with('w', 0, 'w', 9);
        self.mail(0, 1, 0, 0, 1);
        self.deliver(0);
        C.due("a sender among the receivers: one fault", 1, () -> self.faults('w'));
        C.due("a sender among the receivers: another person", 1, () -> self.forwarded(9));
        Filterbench all = Sorter.with('w', 0, 'w', 1, 'w', 9);
        all.mail(3, 1023, 0, 0, 1);
        all.deliver(0);
        C.due("everybody is among the receivers", 3, () -> all.faults('w'));
    }

    /** "Or to whom it was forwarded before in this delivery". */
    private static void forwardedBefore() {
        Filterbench x = Sorter.with('w', 8, 'i', 1, 'w', 8);
        Sorter.always(x, 1, 'w', 8, 'w', 7);
        Sorter.mail(x);
        x.attempt(0, 0);
        C.due("a try: faults", 2, () -> x.faults('w'));
        x.deliver(0);
        C.due("a delivery behind a try: faults", 2, () -> x.faults('w'));
        C.dueDone("a delivery behind a try", x, 0, 1, 1001);
        C.due("to 8 once", 1, () -> x.forwarded(8));
        x.deliver(0);
        C.due("the next delivery: faults", 2, () -> x.faults('w'));
        C.due("the next delivery: to 8 again", 2, () -> x.forwarded(8));
        C.due("the next delivery: to 7 again", 2, () -> x.forwarded(7));
    }

    /** A sorter whose script 0 does so many actions, 183 to 203, none of which excludes another. */
    private static Filterbench doing(int actions) {
        Filterbench x = Sorter.with('i', 1, 'i', 1, 'i', 1);
        for (int rule = 0; rule < 12; rule++) {
            Sorter.always(x, 1, 'F', 1, 'F', 2, 'F', 3, 'F', 4, 'U', 4);
        }
        int rule = 0;
        for (int done = 183; done < actions; done++) {
            if (done % 5 == 3) {
                rule = x.rule(0, 0);
            }
            x.action(0, rule, 'U', 5);
        }
        Sorter.mail(x);
        return x;
    }

    /** "At most 200 actions are done in a delivery or a try". */
    private static void twoHundredActions() {
        for (int i = 198; i <= 203; i++) {
            int actions = i;
            Filterbench x = doing(actions);
            x.deliver(0);
            C.due(i + " actions", Math.min(actions, 200), x::done);
            C.due(i + " actions: the first", 0, () -> x.doneAt(0));
            C.due(i + " actions: the second", 1000, () -> x.doneAt(1));
            C.due(i + " actions: the 198th", 34, () -> x.doneAt(197));
            if (actions < 200) {
                C.refuses(i + " actions: no 200th", IndexOutOfBoundsException.class, () -> x.doneAt(199));
            } else {
                C.due(i + " actions: the 200th", 41, () -> x.doneAt(199));
            }
            C.refuses(i + " actions: no 201st", IndexOutOfBoundsException.class, () -> x.doneAt(200));
            x.attempt(0, 0);
            C.due(i + " actions in a try", Math.min(actions, 200), x::done);
            x.attempt(1, 0);
            C.due(i + " actions: the next try begins anew", 60, x::done);
        }
    }

    /** "One more that would be done, no clash and no fault, ends all instead": each kind as the 200th and the 201st. */
    private static void oneMoreAction() {
        char[] kinds = {'m', 'k', 'x', 'r', 'c', 'w', 'v', 'F', 'U', 'i', 's', 'S'};
        int[] outcomes = {3, 0, 8, 9, 0, 0, 0, 0, 0, 0, 0, 0};
        for (int k = 0; k < kinds.length; k++) {
            char kind = kinds[k];
            int outcome = outcomes[k];
            Filterbench last = doing(199);
            Sorter.always(last, 0, kind, 3);
            C.due("the 200th, " + kind, outcome, () -> last.deliver(0));
            C.due("the 200th, " + kind + ": done", 200, last::done);
            C.due("the 200th, " + kind + ": its code", 50, () -> last.doneAt(199));
            C.due("the 200th, " + kind + ": sent", kind == 'c' ? 100 : kind == 'w' || kind == 'v' ? 1 : 0,
                () -> (kind == 'c' ? last.inBox(3) : 0) + last.forwarded(3) + last.replies(1));
            C.due("the 200th, " + kind + ": flags", kind == 'U' ? 6 : 14, last::flags);
            Filterbench beyond = doing(200);
            Sorter.always(beyond, 0, kind, 3);
            C.due("the 201st, " + kind, 0, () -> beyond.deliver(0));
            C.due("the 201st, " + kind + ": done", 200, beyond::done);
            C.due("the 201st, " + kind + ": nothing was sent", 0,
                () -> beyond.inBox(3) + beyond.forwarded(3) + beyond.replies(1));
            C.due("the 201st, " + kind + ": flags", 14, beyond::flags);
        }
    }

    /** "Ends all instead, as 'S'": what is behind the end is not even a fault. */
    private static void noneBehindTheEnd() {
        for (char kind : "mkxrcwvFUi".toCharArray()) {
            Filterbench last = doing(199);
            Sorter.always(last, 0, kind, 3, 'w', 0);
            last.deliver(0);
            C.due("behind the 200th, " + kind + ", a fault or a clash", 1, () -> last.faults('w') + last.clashes());
            Filterbench beyond = doing(200);
            Sorter.always(beyond, 0, kind, 3, 'w', 0);
            Sorter.always(beyond, 0, 'w', 0);
            beyond.deliver(0);
            C.due("behind the 201st, " + kind, 0, () -> beyond.faults('w') + beyond.clashes());
        }
        // Within a script, the end ends the scripts around it, too.
        Filterbench within = doing(199);
        Sorter.always(within, 0, 'i', 2, 'w', 0);
        Sorter.always(within, 2, 's', 0);
        within.deliver(0);
        C.due("an 's' as the 201st ends all", 0, () -> within.faults('w'));
        Filterbench fits = doing(198);
        Sorter.always(fits, 0, 'i', 2, 'w', 0);
        Sorter.always(fits, 2, 's', 0);
        fits.deliver(0);
        C.due("an 's' as the 200th ends its script", 1, () -> fits.faults('w'));
        C.due("an 's' as the 200th is done", 2000, () -> fits.doneAt(199));
    }

    /** "No clash": a clash behind the 200th action is counted, and does not end. */
    private static void clashesBehindTwoHundred() {
        Filterbench x = doing(198);
        Sorter.always(x, 0, 'c', 1, 'r', 0, 'm', 2, 'k', 0, 'x', 0);
        Sorter.always(x, 0, 'm', 3, 'r', 0, 'w', 1, 'w', 9, 'k', 0);
        C.due("clashes behind 200", 2, () -> x.deliver(0));
        C.due("clashes behind 200: done", 200, x::done);
        C.due("clashes behind 200: up to the one that ends", 1 + 2 + 2, x::clashes);
        C.due("clashes behind 200: the fault ahead of the end", 1, () -> x.faults('w'));
        C.due("clashes behind 200: the end", 0, () -> x.forwarded(9));
    }

    /** "No fault": a fault behind the 200th action is counted, and does not end. */
    private static void faultsBehindTwoHundred() {
        Filterbench x = doing(199);
        Sorter.always(x, 0, 'w', 9, 'w', 9, 'w', 1, 'w', 0, 'c', 1);
        Sorter.always(x, 0, 'c', 1, 'F', 6, 'c', 1, 'w', 1);
        x.setQuota(1, 99);
        x.deliver(0);
        C.due("faults behind 200: 'w'", 3, () -> x.faults('w'));
        C.due("faults behind 200: 'c', up to the one that ends", 2, () -> x.faults('q'));
        C.due("faults behind 200: done", 200, x::done);
        C.due("faults behind 200: flags", 14, x::flags);
        Filterbench fits = doing(199);
        Sorter.always(fits, 0, 'm', 1, 'w', 1);
        fits.setQuota(1, 99);
        C.due("an 'm' over the quota as the 200th", 0, () -> fits.deliver(0));
        C.due("an 'm' over the quota as the 200th: a fault", 1, () -> fits.faults('q'));
        C.due("an 'm' over the quota as the 200th: done", 200, fits::done);
        C.due("an 'm' over the quota as the 200th: goes on", 1, () -> fits.faults('w'));
        Filterbench beyond = doing(200);
        Sorter.always(beyond, 0, 'm', 1, 'w', 1);
        beyond.setQuota(1, 99);
        C.due("an 'm' over the quota as the 201st", 0, () -> beyond.deliver(0));
        C.due("an 'm' over the quota as the 201st: not done", 200, beyond::done);
        C.due("an 'm' over the quota as the 201st: ends", 0, () -> beyond.faults('w'));
    }

    private static void nestingFaultBehindTwoHundred() {
        Filterbench x = new Filterbench();
        int always = x.test('a', 0, 0);
        int deep = x.test('k', 7, 0);
        int fresh = x.test('!', deep, 0);
        for (int script = 0; script < 3; script++) {
            for (int rule = 0; rule < 10; rule++) {
                Sorter.when(x, script, always, 'F', 1, 'F', 2, 'F', 3, 'F', 4, 'F', 5);
            }
            Sorter.when(x, script, always, 'i', script + 1);
        }
        Sorter.when(x, 3, fresh, 'F', 7, 'i', 3);
        for (int rule = 0; rule < 9; rule++) {
            Sorter.when(x, 3, deep, 'F', 1, 'F', 2, 'F', 3, 'F', 4, 'F', 5);
        }
        // 153 actions lead to script 3, which does 2, and 45 more within four others.
        Sorter.when(x, 3, deep, 'i', 3, 'w', 1, 'F', 6, 'w', 1);
        Sorter.mail(x);
        x.deliver(0);
        C.due("an 'i' within four behind 200: done", 200, x::done);
        C.due("an 'i' within four behind 200: a fault", 1, () -> x.faults('i'));
        C.due("an 'i' within four behind 200: goes on, to the end", 1, () -> x.faults('w'));
        C.due("an 'i' within four behind 200: flags", 0b10111110, x::flags);
    }

    // ---- Boxes

    /** "Boxes 1 to 7 have a quota, 2000 at first". */
    private static void firstQuotas() {
        for (int i = 1; i < 8; i++) {
            int box = i;
            for (int rest = 1; rest <= 3; rest++) {
                Filterbench x = Sorter.with('m', box);
                Sorter.delivered(x, 999);
                Sorter.delivered(x, 999);
                int last = Sorter.mail(x, rest);
                boolean fits = 1998 + rest <= 2000;
                C.due("box " + i + ": " + (1998 + rest), fits ? box : 0, () -> x.deliver(last));
                C.due("box " + i + ": fault", fits ? 0 : 1, () -> x.faults('q'));
                int due = fits ? 1998 + rest : 1998;
                C.due("box " + i + ": what is in it", due, () -> x.inBox(box));
                C.due("box " + i + ": the quota", 2000, () -> x.setQuota(box, 0));
            }
        }
    }

    /** "What would make a box 1 to 7 have more than its quota": by mails that are in it, and not gone. */
    private static void roomByMails() {
        int[] sizes = {1, 100, 999};
        for (int size : sizes) {
            for (int spare = size - 1; spare <= size + 1; spare++) {
                for (char kind : new char[] {'m', 'c'}) {
                    Filterbench x = Sorter.with('m', 5);
                    Sorter.delivered(x, 300);
                    int gone = Sorter.delivered(x, 400);
                    x.clear(0);
                    Sorter.always(x, 0, 'x', 0);
                    x.deliver(gone);
                    x.clear(0);
                    Sorter.always(x, 0, kind, 5);
                    int mail = Sorter.mail(x, size);
                    x.setQuota(5, 300 + spare);
                    dueRoom(x, kind + " of " + size + " with " + spare + " left", kind, mail, size, spare);
                }
            }
        }
    }

    /** The mail is tried and delivered to box 5, in which there are 300. */
    private static void dueRoom(Filterbench x, String what, char kind, int mail, int size, int spare) {
        boolean fits = size <= spare;
        int outcome = fits && kind == 'm' ? 5 : 0;
        C.due(what + ": try", outcome, () -> x.attempt(0, mail));
        C.due(what + ": faults of the try", fits ? 0 : 1, () -> x.faults('q'));
        C.due(what, outcome, () -> x.deliver(mail));
        C.due(what + ": faults", fits ? 0 : 1, () -> x.faults('q'));
        C.due(what + ": done", fits || kind == 'm' ? 1 : 0, x::done);
        C.due(what + ": in the box", fits ? 300 + size : 300, () -> x.inBox(5));
        C.due(what + ": in the box 0", outcome == 0 ? size : 0, () -> x.inBox(0));
    }

    /** "And of copies": of other mails, of the same one, and of this delivery. */
    private static void roomByCopies() {
        for (int i = 399; i <= 401; i++) {
            int quota = i;
            Filterbench x = Sorter.with('c', 2);
            Sorter.delivered(x, 200);
            int mail = Sorter.delivered(x, 100);
            x.setQuota(2, quota);
            x.clear(0);
            Sorter.always(x, 0, 'm', 2);
            C.due("an 'm' beside copies, of " + i, quota >= 400 ? 2 : 0, () -> x.deliver(mail));
            C.due("an 'm' beside copies, of " + i + ": in the box", quota >= 400 ? 400 : 300, () -> x.inBox(2));
            Filterbench two = Sorter.with('c', 3, 'c', 3);
            Sorter.mail(two, 200);
            two.setQuota(3, quota);
            two.deliver(0);
            C.due("two copies, of " + i, quota >= 400 ? 400 : 200, () -> two.inBox(3));
            C.due("two copies, of " + i + ": done", quota >= 400 ? 2 : 1, two::done);
            two.deliver(0);
            C.due("two copies once more, of " + i + ": no room", 2, () -> two.faults('q'));
        }
    }

    /** "The quota, 0 to 9999". */
    private static void roomAtTheEdges() {
        for (int quota = 0; quota <= 2; quota++) {
            Filterbench x = Sorter.with('c', 1, 'm', 1);
            Sorter.mail(x, 1);
            x.setQuota(1, quota);
            x.deliver(0);
            int due = quota;
            C.due("quota " + quota + ": in the box", due, () -> x.inBox(1));
            C.due("quota " + quota + ": faults", 2 - due, () -> x.faults('q'));
        }
        for (int rest = 8; rest <= 10; rest++) {
            Filterbench x = Sorter.with('m', 7);
            x.setQuota(7, 9999);
            for (int i = 0; i < 10; i++) {
                Sorter.delivered(x, 999);
            }
            int last = Sorter.mail(x, rest);
            C.due("quota 9999: " + (9990 + rest), rest <= 9 ? 7 : 0, () -> x.deliver(last));
        }
    }

    /** "A mail goes to the box 0 then, and the 'm' counts as done; a copy is not made, and the 'c' not done." */
    private static void overTheQuota() {
        Filterbench x = Sorter.with('c', 1, 'm', 1, 'k', 0, 'm', 2, 'r', 0);
        x.setQuota(1, 99);
        Sorter.mail(x);
        C.due("over the quota", 0, () -> x.deliver(0));
        C.dueDone("over the quota: 'm' alone is done", x, 1);
        C.due("over the quota: faults", 2, () -> x.faults('q'));
        C.due("over the quota: clashes behind the 'm'", 3, x::clashes);
        C.due("over the quota: no copy", 0, () -> x.inBox(1));
        C.due("over the quota: in the box 0", 0, () -> x.boxOf(0));
        Filterbench clash = Sorter.with('k', 0, 'm', 1);
        clash.setQuota(1, 0);
        Sorter.mail(clash);
        clash.deliver(0);
        C.due("an 'm' that is a clash is no fault", 0, () -> clash.faults('q'));
    }

    /** Box 0 has no quota. */
    private static void noQuotaOfBoxZero() {
        Filterbench x = Sorter.with('c', 0, 'c', 0, 'c', 0, 'c', 0, 'm', 0);
        for (int i = 0; i < 12; i++) {
            Sorter.delivered(x, 999);
            C.due("box 0: no fault", 0, () -> x.faults('q'));
        }
        C.due("box 0: all", 60 * 999, () -> x.inBox(0));
    }

    /** "The mail itself is in no box until its end, but what its 'm' gave counts." */
    private static void mailItselfIsInNoBox() {
        Filterbench x = Sorter.with('m', 1);
        Sorter.delivered(x, 100);
        x.setQuota(1, 100);
        C.due("again into its box: try", 1, () -> x.attempt(0, 0));
        C.due("again into its box", 1, () -> x.deliver(0));
        x.setQuota(1, 99);
        C.due("again into its box, with one less", 0, () -> x.attempt(0, 0));
        for (int i = 199; i <= 200; i++) {
            int quota = i;
            boolean fits = quota == 200;
            Filterbench behind = Sorter.with('m', 1, 'c', 1);
            behind.setQuota(1, quota);
            Sorter.mail(behind);
            behind.attempt(0, 0);
            C.due("a copy behind the 'm', try of " + i, fits ? 0 : 1, () -> behind.faults('q'));
            behind.deliver(0);
            C.due("a copy behind the 'm', of " + i, fits ? 200 : 100, () -> behind.inBox(1));
            Filterbench ahead = Sorter.with('c', 1, 'm', 1);
            ahead.setQuota(1, quota);
            Sorter.mail(ahead);
            C.due("a copy ahead of the 'm', of " + i, fits ? 1 : 0, () -> ahead.deliver(0));
            C.due("a copy ahead of the 'm', of " + i + ": in the box", fits ? 200 : 100, () -> ahead.inBox(1));
        }
        for (int i = 499; i <= 500; i++) {
            int quota = i;
            Filterbench beside = Sorter.with('m', 1);
            Sorter.delivered(beside, 300);
            beside.action(0, 0, 'c', 1);
            beside.setQuota(1, quota);
            int mail = Sorter.mail(beside);
            beside.attempt(0, mail);
            C.due("a copy behind the 'm', beside another mail, try of " + i, 500 - quota, () -> beside.faults('q'));
            beside.deliver(mail);
            int due = quota < 500 ? 400 : 500;
            C.due("a copy behind the 'm', beside another mail, of " + i, due, () -> beside.inBox(1));
        }
        Filterbench other = Sorter.with('m', 2, 'c', 1);
        other.setQuota(1, 100);
        Sorter.mail(other);
        other.deliver(0);
        C.due("an 'm' to another box gives nothing here", 100, () -> other.inBox(1));
        Filterbench kept = Sorter.with('c', 3, 'k', 0);
        kept.setQuota(3, 100);
        Sorter.delivered(kept, 50);
        kept.move(0, 3);
        kept.deliver(0);
        C.due("taken out of its box ahead of its copy", 0, () -> kept.faults('q'));
        C.due("both copies", 100, () -> kept.inBox(3));
        kept.deliver(0);
        C.due("copies are not taken out", 1, () -> kept.faults('q'));
    }

    private static void quotaBelowWhatIsThere() {
        Filterbench x = Sorter.with('m', 6);
        Sorter.delivered(x, 500);
        Sorter.delivered(x, 1);
        x.setQuota(6, 10);
        C.due("a quota below what is there", 501, () -> x.inBox(6));
        C.due("a quota below what is there: the box stays", 6, () -> x.boxOf(0));
        C.due("again, with too much beside it", 0, () -> x.deliver(1));
        C.due("alone, too much itself", 0, () -> x.deliver(0));
        C.due("alone, not too much", 6, () -> x.deliver(1));
    }

    /** "Moves a mail by hand, whatever the quota". */
    private static void movedByHand() {
        Filterbench x = new Filterbench();
        x.test('a', 0, 0);
        for (int i = 0; i < 3; i++) {
            Sorter.delivered(x, 999);
        }
        for (int i = 0; i < 3; i++) {
            int mail = i;
            C.due("by hand: from 0", 0, () -> x.move(mail, 7));
        }
        C.due("by hand: over the quota", 2997, () -> x.inBox(7));
        C.due("by hand: the mean", 999.0, () -> x.meanSize(7));
        C.due("by hand: to the box it is in", 7, () -> x.move(2, 7));
        C.due("by hand: still there", 2997, () -> x.inBox(7));
        C.due("by hand: back", 7, () -> x.move(2, 0));
        C.due("by hand: below the quota again", 1998, () -> x.inBox(7));
        Sorter.always(x, 0, 'm', 7);
        C.due("by hand: counts for the quota", 0, () -> x.deliver(2));
        C.due("by hand: no last delivery of its own", 1, x::done);
    }

    // ---- Deliveries

    /** "A mail that was delivered before is taken out of its box first; its copies stay". */
    private static void deliveredAgain() {
        Filterbench x = Sorter.with('c', 1, 'm', 2, 'F', 3);
        Sorter.delivered(x, 100);
        x.clear(0);
        Sorter.always(x, 0, 'm', 4);
        x.deliver(0);
        C.due("delivered again: out of its box", 0, () -> x.inBox(2));
        C.due("delivered again: in another one", 100, () -> x.inBox(4));
        C.due("delivered again: the copy stays", 100, () -> x.inBox(1));
        C.due("delivered again: flags are none at first", false, () -> x.hasFlag(0, 3));
        C.due("delivered again: the sum", 100L, x::sum);
        x.move(0, 5);
        x.deliver(0);
        C.due("delivered again: out of the box it was moved to", 0, () -> x.inBox(5));
        C.due("delivered again: once alone", 100, () -> x.inBox(4));
    }

    /** "It is not gone any more, unless it is let go again". */
    private static void notGoneAnyMore() {
        for (char kind : new char[] {'x', 'r'}) {
            Filterbench x = Sorter.with('F', 2, kind, 0);
            Sorter.delivered(x, 100);
            C.refuses(kind + ": gone", ELEMENT, () -> x.boxOf(0));
            C.refuses(kind + ": not moved", ELEMENT, () -> x.move(0, 0));
            C.due(kind + ": gone, in no box", 0, () -> x.inBox(0));
            C.due(kind + ": gone, not in the sum", 0L, x::sum);
            C.due(kind + ": gone, its share", 1.0f, x::goneShare);
            C.due(kind + ": gone, with its flags", true, () -> x.hasFlag(0, 2));
            x.deliver(0);
            C.refuses(kind + ": let go again", ELEMENT, () -> x.boxOf(0));
            x.attempt(1, 0);
            C.refuses(kind + ": a try does not bring it back", ELEMENT, () -> x.boxOf(0));
            x.clear(0);
            x.deliver(0);
            C.due(kind + ": not gone any more", 0, () -> x.boxOf(0));
            C.due(kind + ": not gone any more, in the sum", 100L, x::sum);
            C.due(kind + ": not gone any more, its share", 0.0f, x::goneShare);
            C.due(kind + ": not gone any more, in the box 0", 100, () -> x.inBox(0));
        }
    }

    /** "To try a script is to find what would be done, ... and change nothing." */
    private static void tryChangesNothing() {
        Filterbench x = Sorter.with('F', 1, 'm', 1);
        Sorter.always(x, 1, 'c', 1, 'w', 9, 'v', 1, 'F', 2, 'x', 0);
        Sorter.delivered(x, 100);
        x.setQuota(1, 100);
        for (int i = 0; i < 3; i++) {
            C.due("tried: outcome, as its box has room", 8, () -> x.attempt(1, 0));
            C.dueDone("tried", x, 1000, 1001, 1002, 1003, 1004);
            C.due("tried: the flag of the last delivery is none at first", 4, x::flags);
        }
        C.due("tried: its box", 1, () -> x.boxOf(0));
        C.due("tried: what is in it", 100, () -> x.inBox(1));
        C.due("tried: its flags", true, () -> x.hasFlag(0, 1) && !x.hasFlag(0, 2));
        C.due("tried: forwarded", 0, () -> x.forwarded(9));
        C.due("tried: replies", 0, () -> x.replies(1));
        C.due("tried: the share", 0.0f, x::goneShare);
        x.move(0, 3);
        x.attempt(1, 0);
        C.due("tried: moved by hand all the same", true, () -> x.learn(3) > 0);
    }

    /** "The outcome of a delivery or a try is the box, 8 for a mail that is let go and 9 for one that is sent back." */
    private static void outcomes() {
        for (int i = 0; i < 8; i++) {
            int box = i;
            Filterbench x = Sorter.with('m', box);
            Sorter.mail(x);
            C.due("a try: box " + i, box, () -> x.attempt(0, 0));
            C.due("box " + i, box, () -> x.deliver(0));
            C.due("its box " + i, box, () -> x.boxOf(0));
        }
        char[] kinds = {'k', 'x', 'r'};
        int[] due = {0, 8, 9};
        for (int i = 0; i < 3; i++) {
            int outcome = due[i];
            Filterbench x = Sorter.with(kinds[i], 5);
            Sorter.mail(x);
            C.due("a try: " + kinds[i], outcome, () -> x.attempt(0, 0));
            C.due("outcome of " + kinds[i], outcome, () -> x.deliver(0));
        }
    }

    // ---- the promises about the last delivery or try, and about all mail

    /** "The last delivery or try": none yet, each of the two, and that neither a look nor a refused call is one. */
    private static void lastOfAll() {
        Filterbench x = Sorter.with('k', 0, 'k', 0, 'w', 1, 'F', 7);
        Sorter.mail(x);
        C.dueDone("no last one yet", x);
        C.due("no last one yet: clashes", 0, x::clashes);
        C.due("no last one yet: faults", 0, () -> x.faults('i') + x.faults('w') + x.faults('q'));
        C.due("no last one yet: flags", 0, x::flags);
        x.attempt(0, 0);
        C.dueDone("the last one is a try", x, 0, 3);
        x.difference(0, 1);
        x.isTrue();
        C.refuses("no such mail", IndexOutOfBoundsException.class, () -> x.deliver(1));
        C.refuses("no such script", IndexOutOfBoundsException.class, () -> x.attempt(4, 0));
        C.dueDone("still this try", x, 0, 3);
        C.due("still this try: clashes", 1, x::clashes);
        C.due("still this try: faults", 1, () -> x.faults('w'));
        C.due("still this try: flags", 128, x::flags);
        x.clear(0);
        C.dueDone("still this try, though its rules are gone", x, 0, 3);
        x.deliver(0);
        C.dueDone("the last one is a delivery", x);
        C.due("the last one is a delivery: clashes", 0, x::clashes);
        C.due("the last one is a delivery: flags", 0, x::flags);
    }

    /** "For how many mails the outcomes, or the flags that are left, of tries of two scripts differ". */
    private static void differences() {
        Filterbench x = new Filterbench();
        x.test('a', 0, 0);
        C.due("no mails, no difference", 0, () -> x.difference(0, 1));
        Sorter.always(x, 0, 'm', 1);
        Sorter.always(x, 1, 'm', 1, 'F', 0, 'U', 0, 'c', 2, 'w', 9);
        Sorter.always(x, 2, 'm', 1, 'F', 0);
        Sorter.always(x, 3, 'm', 1, 'F', 7);
        for (int size = 99; size <= 101; size++) {
            Sorter.mail(x, size);
        }
        C.due("the same outcomes and flags", 0, () -> x.difference(0, 1));
        C.due("the first flag", 3, () -> x.difference(0, 2));
        C.due("the last flag", 3, () -> x.difference(3, 0));
        C.due("two flags", 3, () -> x.difference(2, 3));
        x.clear(2);
        Sorter.always(x, 2, 'm', 2);
        x.setQuota(1, 100);
        x.setQuota(2, 99);
        C.due("boxes with quotas: 99, 100 and 101 to both", 2, () -> x.difference(0, 2));
        x.clear(3);
        Sorter.always(x, 3, 'k', 0);
        C.due("sorted into the box 0, or kept there", 2, () -> x.difference(0, 3));
        x.setQuota(1, 99);
        C.due("a quota less", 1, () -> x.difference(0, 3));
        C.due("of the same script", 0, () -> x.difference(2, 2));
    }

    /** "The sum of the sizes of all mails that are not gone", "those that were not delivered included". */
    private static void sums() {
        Filterbench x = Sorter.with('x', 0);
        C.due("no mails", 0L, x::sum);
        for (int i = 0; i < 40; i++) {
            Sorter.mail(x, 999);
        }
        C.due("40 mails", 39960L, x::sum);
        x.deliver(0);
        x.deliver(39);
        C.due("the first and the last are gone", 38L * 999, x::sum);
        for (int i = 1; i < 39; i++) {
            x.deliver(i);
        }
        C.due("all are gone", 0L, x::sum);
        C.due("all are gone: their share", 1.0f, x::goneShare);
        C.refuses("all are gone: no mean", ARITHMETIC, () -> x.meanSize(0));
    }

    /** "Their number divided by that of all that were delivered, both converted to float". */
    private static void shares() {
        Filterbench x = new Filterbench();
        int always = x.test('a', 0, 0);
        int big = x.test('z', 500, 0);
        Sorter.when(x, 0, big, 'x', 0);
        Sorter.when(x, 0, always, 'c', 0);
        int[] sizes = {501, 500, 499, 7, 8, 999, 1};
        float[] due = {1.0f, 1.0f / 2.0f, 1.0f / 3.0f, 1.0f / 4.0f, 1.0f / 5.0f, 2.0f / 6.0f, 2.0f / 7.0f};
        for (int i = 0; i < sizes.length; i++) {
            Sorter.delivered(x, sizes[i]);
            Sorter.mail(x, 3);
            C.due("share of " + (i + 1), due[i], x::goneShare);
        }
        C.due("mean of five, copies aside", 1015.0 / 5.0, () -> x.meanSize(0));
        C.due("what is in the box, copies of seven too", 1015 + 2515, () -> x.inBox(0));
    }
}
