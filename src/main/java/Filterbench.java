import java.util.NoSuchElementException;

/**
 * A mail sorter's language: mails, tests, scripts of rules, deliveries and tries,
 * rules that nothing comes to, and the least test that would have sorted mail as it was moved.
 */
public final class Filterbench {
    private static final int PERSONS = 10;
    private static final int WORDS = 16;
    private static final int WORD_SETS = 65536;
    private static final int WEEKDAYS = 7;
    private static final int BIGGEST_SIZE = 999;
    private static final int BOXES = 8;
    private static final int FLAGS = 8;
    private static final int SCRIPTS = 4;
    private static final int LET_GO = 8;
    private static final int SENT_BACK = 9;

    private final Tests tests;
    private final Office office;
    private final Script[] scripts;
    private final Handling handling;
    private final Report last;
    private final Report spare;
    private final Reasoner reasoner;
    private final Learner learner;

    public Filterbench() {
        tests = new Tests();
        office = new Office();
        scripts = new Script[SCRIPTS];
        for (int i = 0; i < SCRIPTS; i++) {
            scripts[i] = new Script();
        }
        handling = new Handling(tests, scripts, office);
        last = new Report();
        spare = new Report();
        reasoner = new Reasoner(tests);
        learner = new Learner(office);
    }

    // ---- mails

    public int mail(int sender, int receivers, int subject, int body, int size)
            throws IllegalArgumentException, IllegalStateException {
        if (!isBelow(sender, PERSONS) || !lies(receivers, 1, (1 << PERSONS) - 1)
                || !isBelow(subject, WORD_SETS) || !isBelow(body, WORD_SETS)
                || !lies(size, 1, BIGGEST_SIZE)) {
            throw new IllegalArgumentException("a number of the mail is out of range");
        }
        if (office.mailCount >= Office.MAILS) {
            throw new IllegalStateException("there are 40 mails");
        }
        return office.takeIn(sender, receivers, subject, body, size);
    }

    public int pass(int days) throws IllegalArgumentException {
        if (!lies(days, 1, 100)) {
            throw new IllegalArgumentException("the number of days is out of range");
        }
        office.today += days;
        return office.today;
    }

    public int setQuota(int box, int quota) throws IndexOutOfBoundsException, IllegalArgumentException {
        if (!lies(box, 1, BOXES - 1)) {
            throw new IndexOutOfBoundsException("no box with a quota");
        }
        if (!lies(quota, 0, 9999)) {
            throw new IllegalArgumentException("the quota is out of range");
        }
        int before = office.quotas[box];
        office.quotas[box] = quota;
        return before;
    }

    public int inBox(int box) throws IndexOutOfBoundsException {
        requireBelow(box, BOXES);
        return office.copies[box] + office.sizesIn(box);
    }

    public int boxOf(int mail) throws IndexOutOfBoundsException, NoSuchElementException {
        requireBelow(mail, office.mailCount);
        requireInBox(mail);
        return office.mails[mail].box;
    }

    public boolean hasFlag(int mail, int flag) throws IndexOutOfBoundsException {
        requireBelow(mail, office.mailCount);
        requireBelow(flag, FLAGS);
        return hasBit(office.mails[mail].flagBits, flag);
    }

    public int move(int mail, int box) throws IndexOutOfBoundsException, NoSuchElementException {
        requireBelow(mail, office.mailCount);
        requireBelow(box, BOXES);
        requireInBox(mail);
        Mail moved = office.mails[mail];
        int before = moved.box;
        moved.box = box;
        moved.isMoved = true;
        return before;
    }

    // ---- tests and rules

    public int test(char kind, int a, int b)
            throws IllegalArgumentException, IndexOutOfBoundsException, IllegalStateException {
        if (!Tests.allows(kind, a)) {
            throw new IllegalArgumentException("no such kind, or its number is out of range");
        }
        int parts = Tests.partsOf(kind);
        if (parts > 0) {
            requireBelow(a, tests.count);
        }
        if (parts > 1) {
            requireBelow(b, tests.count);
        }
        requireRoomForTests(1);
        return tests.append(kind, a, b);
    }

    public boolean holds(int test, int mail) throws IndexOutOfBoundsException {
        requireBelow(test, tests.count);
        requireBelow(mail, office.mailCount);
        Mail looked = office.mails[mail];
        return hasBit(tests.truthFor(looked, looked.flagBits), test);
    }

    public int rule(int script, int test) throws IndexOutOfBoundsException, IllegalStateException {
        requireBelow(script, SCRIPTS);
        requireBelow(test, tests.count);
        Script changed = scripts[script];
        if (changed.count >= Script.RULES) {
            throw new IllegalStateException("the script has 12 rules");
        }
        return changed.append(test);
    }

    public int action(int script, int rule, char kind, int a)
            throws IndexOutOfBoundsException, IllegalArgumentException, IllegalStateException {
        requireRule(script, rule);
        if (!Rule.allows(kind, a)) {
            throw new IllegalArgumentException("no such kind, or its number is out of range");
        }
        Rule changed = scripts[script].rules[rule];
        if (changed.count >= Rule.ACTIONS) {
            throw new IllegalStateException("the rule has 5 actions");
        }
        return changed.append(kind, a);
    }

    public int clear(int script) throws IndexOutOfBoundsException {
        requireBelow(script, SCRIPTS);
        int before = scripts[script].count;
        scripts[script].count = 0;
        return before;
    }

    public int reorder(int script, int rule, int place) throws IndexOutOfBoundsException {
        requireRule(script, rule);
        requireRule(script, place);
        scripts[script].shift(rule, place);
        return scripts[script].count;
    }

    // ---- deliveries and tries

    public int deliver(int mail) throws IndexOutOfBoundsException {
        requireBelow(mail, office.mailCount);
        handling.perform(0, mail, last);
        office.carryOut(mail, last);
        return last.outcome;
    }

    public int attempt(int script, int mail) throws IndexOutOfBoundsException {
        requireBelow(script, SCRIPTS);
        requireBelow(mail, office.mailCount);
        handling.perform(script, mail, last);
        return last.outcome;
    }

    public int done() {
        return last.doneCount;
    }

    public int doneAt(int index) throws IndexOutOfBoundsException {
        requireBelow(index, last.doneCount);
        return last.doneCodes[index];
    }

    public int clashes() {
        return last.clashCount;
    }

    public int faults(char kind) throws IllegalArgumentException {
        switch (kind) {
            case 'i':
                return last.nestingFaults;
            case 'w':
                return last.forwardFaults;
            case 'q':
                return last.quotaFaults;
            default:
                throw new IllegalArgumentException("no such kind of fault");
        }
    }

    public int flags() {
        return last.flagBits;
    }

    public int replies(int person) throws IndexOutOfBoundsException {
        requireBelow(person, PERSONS);
        return office.replyCounts[person];
    }

    public int forwarded(int person) throws IndexOutOfBoundsException {
        requireBelow(person, PERSONS);
        return office.forwardCounts[person];
    }

    public int difference(int script, int other) throws IndexOutOfBoundsException {
        requireBelow(script, SCRIPTS);
        requireBelow(other, SCRIPTS);
        int differing = 0;
        for (int mail = 0; mail < office.mailCount; mail++) {
            handling.perform(script, mail, spare);
            int outcome = spare.outcome;
            int left = spare.flagBits;
            handling.perform(other, mail, spare);
            if (spare.outcome != outcome || spare.flagBits != left) {
                differing++;
            }
        }
        return differing;
    }

    // ---- rules and learning

    public boolean isShadowed(int script, int rule) throws IndexOutOfBoundsException {
        requireRule(script, rule);
        return isNeverDone(script, rule);
    }

    public boolean areSame(int test, int other) throws IndexOutOfBoundsException {
        requireBelow(test, tests.count);
        requireBelow(other, tests.count);
        return !reasoner.isPossible(1L << test, 1L << other)
                && !reasoner.isPossible(1L << other, 1L << test);
    }

    public int learn(int box) throws IndexOutOfBoundsException, NoSuchElementException, IllegalStateException {
        requireBelow(box, BOXES);
        if (!learner.finds(box)) {
            throw new NoSuchElementException("no mail was moved there, or no test tells it apart");
        }
        requireRoomForTests(learner.testsNeeded());
        return learner.writeInto(tests);
    }

    public long sum() {
        long total = 0L;
        for (int i = 0; i < office.mailCount; i++) {
            if (!office.mails[i].isGone) {
                total += office.mails[i].size;
            }
        }
        return total;
    }

    public float goneShare() throws ArithmeticException {
        int delivered = 0;
        int gone = 0;
        for (int i = 0; i < office.mailCount; i++) {
            if (office.mails[i].isDelivered) {
                delivered++;
            }
            if (office.mails[i].isGone) {
                gone++;
            }
        }
        if (delivered == 0) {
            throw new ArithmeticException("no mail was delivered");
        }
        return (float) gone / (float) delivered;
    }

    public double meanSize(int box) throws IndexOutOfBoundsException, ArithmeticException {
        requireBelow(box, BOXES);
        int number = 0;
        for (int i = 0; i < office.mailCount; i++) {
            if (office.mails[i].liesIn(box)) {
                number++;
            }
        }
        if (number == 0) {
            throw new ArithmeticException("no mail is in the box");
        }
        return (double) office.sizesIn(box) / (double) number;
    }

    public boolean isTrue() {
        for (int script = 0; script < SCRIPTS; script++) {
            int reached = 0;
            for (int mail = 0; mail < office.mailCount; mail++) {
                handling.perform(script, mail, spare);
                reached |= spare.rulesReached;
            }
            for (int rule = 0; rule < scripts[script].count; rule++) {
                if (hasBit(reached, rule) && isNeverDone(script, rule)) {
                    return false;
                }
            }
        }
        return true;
    }

    // ---- what several calls need

    private boolean isNeverDone(int script, int rule) {
        Rule[] rules = scripts[script].rules;
        long fail = 0L;
        for (int i = 0; i < rule; i++) {
            if (rules[i].endsScript()) {
                fail |= 1L << rules[i].test;
            }
        }
        return !reasoner.isPossible(1L << rules[rule].test, fail);
    }

    private void requireRule(int script, int rule) {
        requireBelow(script, SCRIPTS);
        requireBelow(rule, scripts[script].count);
    }

    private void requireInBox(int mail) {
        if (!office.mails[mail].isKept()) {
            throw new NoSuchElementException("the mail was not delivered, or is gone");
        }
    }

    private void requireRoomForTests(int more) {
        if (tests.count + more > Tests.LIMIT) {
            throw new IllegalStateException("there would be more than 60 tests");
        }
    }

    private static void requireBelow(int index, int count) {
        if (!isBelow(index, count)) {
            throw new IndexOutOfBoundsException("no such number");
        }
    }

    private static boolean isBelow(int number, int bound) {
        return number >= 0 && number < bound;
    }

    private static boolean lies(int number, int low, int high) {
        return number >= low && number <= high;
    }

    private static boolean hasBit(int bits, int place) {
        return (bits >> place & 1) != 0;
    }

    private static boolean hasBit(long bits, int place) {
        return (bits >> place & 1L) != 0L;
    }

    /** A mail, with what its deliveries and moves made of it. */
    private static final class Mail {
        int sender;
        int receivers;
        int subject;
        int body;
        int size;
        int weekday;
        int box;
        int flagBits;
        boolean isDelivered;
        boolean isGone;
        boolean isMoved;

        boolean isKept() {
            return isDelivered && !isGone;
        }

        boolean liesIn(int place) {
            return isKept() && box == place;
        }
    }

    /** The mails and boxes, and what deliveries sent to whom. */
    private static final class Office {
        static final int MAILS = 40;
        private static final int FIRST_QUOTA = 2000;

        final Mail[] mails = new Mail[MAILS];
        final int[] quotas = new int[BOXES];
        final int[] copies = new int[BOXES];
        final int[] replyCounts = new int[PERSONS];
        final int[] forwardCounts = new int[PERSONS];
        private final int[] replyDays = new int[PERSONS];
        int mailCount;
        int today;

        Office() {
            for (int i = 0; i < MAILS; i++) {
                mails[i] = new Mail();
            }
            for (int i = 0; i < BOXES; i++) {
                quotas[i] = FIRST_QUOTA;
            }
        }

        int takeIn(int sender, int receivers, int subject, int body, int size) {
            Mail added = mails[mailCount];
            added.sender = sender;
            added.receivers = receivers;
            added.subject = subject;
            added.body = body;
            added.size = size;
            added.weekday = today % WEEKDAYS;
            mailCount++;
            return mailCount - 1;
        }

        int sizesIn(int box) {
            int sizes = 0;
            for (int i = 0; i < mailCount; i++) {
                if (mails[i].liesIn(box)) {
                    sizes += mails[i].size;
                }
            }
            return sizes;
        }

        /** Puts into the row what each box has when the mail is taken out. */
        void loadWithout(int mail, int[] load) {
            for (int box = 0; box < BOXES; box++) {
                load[box] = copies[box];
            }
            for (int i = 0; i < mailCount; i++) {
                if (i != mail && mails[i].isKept()) {
                    load[mails[i].box] += mails[i].size;
                }
            }
        }

        boolean isReplyDue(int person, int days) {
            return replyCounts[person] == 0 || today - replyDays[person] >= days;
        }

        void carryOut(int mail, Report report) {
            Mail sorted = mails[mail];
            sorted.isDelivered = true;
            sorted.isMoved = false;
            sorted.isGone = report.outcome >= BOXES;
            sorted.box = sorted.isGone ? 0 : report.outcome;
            sorted.flagBits = report.flagBits;
            for (int box = 0; box < BOXES; box++) {
                copies[box] += report.copied[box];
            }
            for (int person = 0; person < PERSONS; person++) {
                if (hasBit(report.forwards, person)) {
                    forwardCounts[person]++;
                }
            }
            if (report.isReplied) {
                replyCounts[sorted.sender]++;
                replyDays[sorted.sender] = today;
            }
        }
    }

    /** The tests, each made of earlier ones; sets of tests are bits, 2 to the power of the number. */
    private static final class Tests {
        static final int LIMIT = 60;

        private final char[] kinds = new char[LIMIT];
        private final int[] firsts = new int[LIMIT];
        private final int[] seconds = new int[LIMIT];
        /** The tests that do not look at a flag, nor does a part of theirs. */
        long steady;
        int count;

        static int partsOf(char kind) {
            return kind == '&' || kind == '|' ? 2 : kind == '!' ? 1 : 0;
        }

        /** Whether there is this kind, and the number is in its range, parts aside. */
        static boolean allows(char kind, int a) {
            switch (kind) {
                case 'a':
                case '!':
                case '&':
                case '|':
                    return true;
                case 'f':
                case 't':
                    return isBelow(a, PERSONS);
                case 's':
                case 'b':
                    return isBelow(a, WORDS);
                case 'z':
                    return lies(a, 0, BIGGEST_SIZE);
                case 'd':
                    return isBelow(a, WEEKDAYS);
                case 'n':
                    return lies(a, 1, PERSONS);
                case 'k':
                    return isBelow(a, FLAGS);
                default:
                    return false;
            }
        }

        int append(char kind, int a, int b) {
            int added = count;
            kinds[added] = kind;
            firsts[added] = a;
            seconds[added] = b;
            count++;
            if (isSteady(added)) {
                steady |= 1L << added;
            }
            return added;
        }

        private boolean isSteady(int test) {
            int parts = partsOf(kinds[test]);
            return kinds[test] != 'k' && (parts < 1 || hasBit(steady, firsts[test]))
                    && (parts < 2 || hasBit(steady, seconds[test]));
        }

        /** The tests that hold for the mail; all at once, as a test may have the same part many times over. */
        long truthFor(Mail mail, int flagBits) {
            long truth = 0L;
            for (int test = 0; test < count; test++) {
                if (isTrueBy(test, truth, mail, flagBits)) {
                    truth |= 1L << test;
                }
            }
            return truth;
        }

        private boolean isTrueBy(int test, long truth, Mail mail, int flagBits) {
            int a = firsts[test];
            switch (kinds[test]) {
                case '!':
                    return !hasBit(truth, a);
                case '&':
                    return hasBit(truth, a) && hasBit(truth, seconds[test]);
                case '|':
                    return hasBit(truth, a) || hasBit(truth, seconds[test]);
                default:
                    return fits(kinds[test], a, mail, flagBits);
            }
        }

        static boolean fits(char kind, int a, Mail mail, int flagBits) {
            switch (kind) {
                case 'f':
                    return mail.sender == a;
                case 't':
                    return hasBit(mail.receivers, a);
                case 's':
                    return hasBit(mail.subject, a);
                case 'b':
                    return hasBit(mail.body, a);
                case 'z':
                    return mail.size > a;
                case 'd':
                    return mail.weekday == a;
                case 'n':
                    return Integer.bitCount(mail.receivers) >= a;
                case 'k':
                    return hasBit(flagBits, a);
                default:
                    return true;
            }
        }
    }

    /** A rule: a test and its actions. */
    private static final class Rule {
        static final int ACTIONS = 5;

        final char[] kinds = new char[ACTIONS];
        final int[] numbers = new int[ACTIONS];
        int test;
        int count;

        static boolean allows(char kind, int a) {
            switch (kind) {
                case 'k':
                case 'x':
                case 'r':
                case 's':
                case 'S':
                    return true;
                case 'm':
                case 'c':
                    return isBelow(a, BOXES);
                case 'w':
                    return isBelow(a, PERSONS);
                case 'F':
                case 'U':
                    return isBelow(a, FLAGS);
                case 'v':
                    return lies(a, 1, 30);
                case 'i':
                    return isBelow(a, SCRIPTS);
                default:
                    return false;
            }
        }

        int append(char kind, int a) {
            kinds[count] = kind;
            numbers[count] = a;
            count++;
            return count;
        }

        boolean endsScript() {
            for (int i = 0; i < count; i++) {
                if (kinds[i] == 's' || kinds[i] == 'S') {
                    return true;
                }
            }
            return false;
        }
    }

    /** A script: its rules in their order; those behind the count wait to be used again. */
    private static final class Script {
        static final int RULES = 12;

        final Rule[] rules = new Rule[RULES];
        int count;

        Script() {
            for (int i = 0; i < RULES; i++) {
                rules[i] = new Rule();
            }
        }

        int append(int test) {
            Rule added = rules[count];
            added.test = test;
            added.count = 0;
            count++;
            return count - 1;
        }

        void shift(int from, int to) {
            Rule shifted = rules[from];
            for (int i = from; i < to; i++) {
                rules[i] = rules[i + 1];
            }
            for (int i = from; i > to; i--) {
                rules[i] = rules[i - 1];
            }
            rules[to] = shifted;
        }
    }

    /** What a delivery or a try did, or would do. */
    private static final class Report {
        static final int LIMIT = 200;
        private static final int NOWHERE = -1;

        final int[] doneCodes = new int[LIMIT];
        final int[] copied = new int[BOXES];
        int outcome;
        int flagBits;
        int doneCount;
        int clashCount;
        int nestingFaults;
        int forwardFaults;
        int quotaFaults;
        int forwards;
        int rulesReached;
        boolean isReplied;

        void reset() {
            outcome = NOWHERE;
            flagBits = 0;
            doneCount = 0;
            clashCount = 0;
            nestingFaults = 0;
            forwardFaults = 0;
            quotaFaults = 0;
            forwards = 0;
            rulesReached = 0;
            isReplied = false;
            for (int box = 0; box < BOXES; box++) {
                copied[box] = 0;
            }
        }

        boolean isPlaced() {
            return outcome != NOWHERE;
        }
    }

    /** Does scripts for a mail, and changes nothing but the report. */
    private static final class Handling {
        private static final int DEEPEST = 4;

        private final Tests tests;
        private final Script[] scripts;
        private final Office office;
        private final int[] load = new int[BOXES];
        private Report report;
        private Mail mail;
        private long truth;
        private boolean isTruthOld;
        private boolean hasSentOut;
        private boolean isOver;

        Handling(Tests tests, Script[] scripts, Office office) {
            this.tests = tests;
            this.scripts = scripts;
            this.office = office;
            report = new Report();
            mail = new Mail();
        }

        void perform(int script, int number, Report filled) {
            filled.reset();
            report = filled;
            mail = office.mails[number];
            isTruthOld = true;
            hasSentOut = false;
            isOver = false;
            office.loadWithout(number, load);
            runScript(script, 0);
            if (!report.isPlaced()) {
                report.outcome = 0;
            }
        }

        private void runScript(int script, int depth) {
            if (depth > DEEPEST) {
                return;
            }
            Script run = scripts[script];
            for (int rule = 0; rule < run.count && !isOver; rule++) {
                Rule next = run.rules[rule];
                if (isMet(next.test)) {
                    if (depth == 0) {
                        report.rulesReached |= 1 << rule;
                    }
                    if (endsBy(next, 1000 * script + 10 * rule, depth)) {
                        return;
                    }
                }
            }
        }

        private boolean isMet(int test) {
            if (isTruthOld) {
                truth = tests.truthFor(mail, report.flagBits);
                isTruthOld = false;
            }
            return hasBit(truth, test);
        }

        /** Does the actions of a rule; answers whether an 's' ended its script. */
        private boolean endsBy(Rule rule, int code, int depth) {
            for (int place = 0; place < rule.count && !isOver; place++) {
                char kind = rule.kinds[place];
                int a = rule.numbers[place];
                if (isClash(kind)) {
                    report.clashCount++;
                } else if (!isFault(kind, a, depth)) {
                    if (report.doneCount >= Report.LIMIT) {
                        isOver = true;
                        return false;
                    }
                    report.doneCodes[report.doneCount] = code + place;
                    report.doneCount++;
                    act(kind, a, depth);
                    if (kind == 's') {
                        return true;
                    }
                }
            }
            return false;
        }

        private boolean isClash(char kind) {
            switch (kind) {
                case 'm':
                case 'k':
                case 'x':
                    return report.isPlaced();
                case 'r':
                    return report.isPlaced() || hasSentOut;
                case 'c':
                case 'w':
                case 'v':
                    return report.outcome == SENT_BACK;
                default:
                    return false;
            }
        }

        /** Finds and counts a fault that keeps an action from being done; an 'm' is done all the same. */
        private boolean isFault(char kind, int a, int depth) {
            if (kind == 'i' && depth >= DEEPEST) {
                report.nestingFaults++;
                return true;
            }
            if (kind == 'w' && (a == mail.sender || hasBit(mail.receivers | report.forwards, a))) {
                report.forwardFaults++;
                return true;
            }
            if (kind == 'c' && isTooMuch(a)) {
                report.quotaFaults++;
                return true;
            }
            return false;
        }

        private boolean isTooMuch(int box) {
            return box != 0 && load[box] + mail.size > office.quotas[box];
        }

        private void act(char kind, int a, int depth) {
            switch (kind) {
                case 'm':
                    putInto(a);
                    break;
                case 'k':
                    report.outcome = 0;
                    break;
                case 'x':
                    report.outcome = LET_GO;
                    break;
                case 'r':
                    report.outcome = SENT_BACK;
                    break;
                case 'c':
                case 'w':
                case 'v':
                    hasSentOut = true;
                    sendOut(kind, a);
                    break;
                case 'F':
                    changeFlags(report.flagBits | 1 << a);
                    break;
                case 'U':
                    changeFlags(report.flagBits & ~(1 << a));
                    break;
                case 'i':
                    runScript(a, depth + 1);
                    break;
                case 'S':
                    isOver = true;
                    break;
                default:
                    break;
            }
        }

        private void putInto(int box) {
            int place = box;
            if (isTooMuch(box)) {
                report.quotaFaults++;
                place = 0;
            }
            report.outcome = place;
            load[place] += mail.size;
        }

        private void sendOut(char kind, int a) {
            if (kind == 'c') {
                report.copied[a] += mail.size;
                load[a] += mail.size;
            } else if (kind == 'w') {
                report.forwards |= 1 << a;
            } else if (office.isReplyDue(mail.sender, a)) {
                // A second reply of this delivery would be sent today as well, so one mark is enough.
                report.isReplied = true;
            }
        }

        private void changeFlags(int changed) {
            isTruthOld = isTruthOld || changed != report.flagBits;
            report.flagBits = changed;
        }
    }

    /** What is known of a mail that is looked for: all mails that agree with it. */
    private static final class Sketch {
        private int senders;
        private int weekdays;
        private int leastSize;
        private int mostSize;
        private int receiving;
        private int notReceiving;
        private int leastReceivers;
        private int mostReceivers;
        /** The receivers that there must be and can be, by those that are known as well. */
        private int fewest;
        private int most;
        private int inSubject;
        private int notInSubject;
        private int inBody;
        private int notInBody;

        void blank() {
            senders = (1 << PERSONS) - 1;
            weekdays = (1 << WEEKDAYS) - 1;
            leastSize = 1;
            mostSize = BIGGEST_SIZE;
            receiving = 0;
            notReceiving = 0;
            leastReceivers = 1;
            mostReceivers = PERSONS;
            inSubject = 0;
            notInSubject = 0;
            inBody = 0;
            notInBody = 0;
        }

        void addHolding(char kind, int a) {
            switch (kind) {
                case 'f':
                    senders &= 1 << a;
                    break;
                case 't':
                    receiving |= 1 << a;
                    break;
                case 's':
                    inSubject |= 1 << a;
                    break;
                case 'b':
                    inBody |= 1 << a;
                    break;
                case 'z':
                    leastSize = Math.max(leastSize, a + 1);
                    break;
                case 'd':
                    weekdays &= 1 << a;
                    break;
                case 'n':
                    leastReceivers = Math.max(leastReceivers, a);
                    break;
                default:
                    break;
            }
        }

        void addFailing(char kind, int a) {
            switch (kind) {
                case 'f':
                    senders &= ~(1 << a);
                    break;
                case 't':
                    notReceiving |= 1 << a;
                    break;
                case 's':
                    notInSubject |= 1 << a;
                    break;
                case 'b':
                    notInBody |= 1 << a;
                    break;
                case 'z':
                    mostSize = Math.min(mostSize, a);
                    break;
                case 'd':
                    weekdays &= ~(1 << a);
                    break;
                case 'n':
                    mostReceivers = Math.min(mostReceivers, a - 1);
                    break;
                default:
                    break;
            }
        }

        /** Whether there is such a mail; asked ahead of what its tests may do. */
        boolean hasMail() {
            fewest = Math.max(leastReceivers, Integer.bitCount(receiving));
            most = Math.min(mostReceivers, PERSONS - Integer.bitCount(notReceiving));
            return senders != 0 && weekdays != 0 && leastSize <= mostSize
                    && (receiving & notReceiving) == 0 && fewest <= most
                    && (inSubject & notInSubject) == 0 && (inBody & notInBody) == 0;
        }

        /** Whether the test holds for some of these mails; there is one at least. */
        boolean mayHold(char kind, int a) {
            switch (kind) {
                case 'f':
                    return hasBit(senders, a);
                case 't':
                    return hasBit(receiving, a)
                            || !hasBit(notReceiving, a) && Integer.bitCount(receiving) < most;
                case 's':
                    return !hasBit(notInSubject, a);
                case 'b':
                    return !hasBit(notInBody, a);
                case 'z':
                    return mostSize > a;
                case 'd':
                    return hasBit(weekdays, a);
                case 'n':
                    return most >= a;
                default:
                    return true;
            }
        }

        /** Whether the test does not hold for some of these mails; there is one at least. */
        boolean mayFail(char kind, int a) {
            switch (kind) {
                case 'f':
                    return (senders & ~(1 << a)) != 0;
                case 't':
                    return hasBit(notReceiving, a)
                            || !hasBit(receiving, a) && PERSONS - Integer.bitCount(notReceiving) > fewest;
                case 's':
                    return !hasBit(inSubject, a);
                case 'b':
                    return !hasBit(inBody, a);
                case 'z':
                    return leastSize <= a;
                case 'd':
                    return (weekdays & ~(1 << a)) != 0;
                case 'n':
                    return fewest < a;
                default:
                    return false;
            }
        }
    }

    /**
     * Looks for a mail for which some tests can hold and others can fail. As 'k' may hold or not each time it
     * is looked at, a test that looks at flags can do both; each other one does just one of the two.
     */
    private static final class Reasoner {
        private static final int DEEPEST = 36;

        private final Tests tests;
        private final Sketch sketch = new Sketch();
        /** The tests that are asked for and all their parts, by rising numbers. */
        private final int[] asked = new int[Tests.LIMIT];
        private int askedCount;
        /** What must be: of each test, that it can hold, and that it can fail. */
        private long hold;
        private long fail;
        /** What can be for some mail of the sketch, and what can be for each of them. */
        private long mayHold;
        private long mayFail;
        private long sureHold;
        private long sureFail;
        private boolean isToHoldFirst;

        Reasoner(Tests tests) {
            this.tests = tests;
        }

        boolean isPossible(long toHold, long toFail) {
            gather(toHold | toFail);
            return hasMail(toHold, toFail, 0);
        }

        private void gather(long wanted) {
            long all = wanted;
            for (int test = tests.count - 1; test >= 0; test--) {
                if (hasBit(all, test)) {
                    int parts = Tests.partsOf(tests.kinds[test]);
                    all |= parts > 0 ? 1L << tests.firsts[test] : 0L;
                    all |= parts > 1 ? 1L << tests.seconds[test] : 0L;
                }
            }
            askedCount = 0;
            for (int test = 0; test < tests.count; test++) {
                if (hasBit(all, test)) {
                    asked[askedCount] = test;
                    askedCount++;
                }
            }
        }

        // Each level settles one more test without parts. Below the tests of twelve rules there are 36 of
        // these at most, as n of them need n - 12 of the 60 tests to join them.
        private boolean hasMail(long toHold, long toFail, int depth) {
            if (depth > DEEPEST || !follow(toHold, toFail)) {
                return false;
            }
            int open = lastOpen();
            if (open < 0) {
                return true;
            }
            long nowHold = hold;
            long nowFail = fail;
            long settled = 1L << unsettledUnder(open);
            if (isToHoldFirst) {
                return hasMail(nowHold | settled, nowFail, depth + 1)
                        || hasMail(nowHold, nowFail | settled, depth + 1);
            }
            return hasMail(nowHold, nowFail | settled, depth + 1)
                    || hasMail(nowHold | settled, nowFail, depth + 1);
        }

        /** Goes down from an open test, by parts that would help it and may still do so, to one without parts. */
        private int unsettledUnder(int open) {
            int test = open;
            boolean isToHold = tests.kinds[open] == '|';
            for (int i = 0; i < Tests.LIMIT && Tests.partsOf(tests.kinds[test]) > 0; i++) {
                int first = tests.firsts[test];
                long helpful = isToHold ? mayHold & ~sureHold : mayFail & ~sureFail;
                if (tests.kinds[test] == '!') {
                    isToHold = !isToHold;
                    test = first;
                } else {
                    test = hasBit(helpful, first) ? first : tests.seconds[test];
                }
            }
            isToHoldFirst = isToHold;
            return test;
        }

        /** Takes up what follows from what must be; answers whether no contradiction showed. */
        private boolean follow(long toHold, long toFail) {
            hold = toHold;
            fail = toFail;
            boolean grows = true;
            for (int round = 0; grows && round <= 2 * Tests.LIMIT; round++) {
                draw();
                if (!sketch.hasMail()) {
                    return false;
                }
                weigh();
                if ((hold & ~mayHold) != 0L || (fail & ~mayFail) != 0L) {
                    return false;
                }
                grows = handDown();
            }
            return true;
        }

        private void draw() {
            sketch.blank();
            for (int i = 0; i < askedCount; i++) {
                int test = asked[i];
                if (hasBit(hold, test)) {
                    sketch.addHolding(tests.kinds[test], tests.firsts[test]);
                }
                if (hasBit(fail, test)) {
                    sketch.addFailing(tests.kinds[test], tests.firsts[test]);
                }
            }
        }

        /** Finds what can be of each test, by the sketch and by what can be of its parts. */
        private void weigh() {
            mayHold = 0L;
            mayFail = 0L;
            sureHold = 0L;
            sureFail = 0L;
            for (int i = 0; i < askedCount; i++) {
                int test = asked[i];
                char kind = tests.kinds[test];
                int a = tests.firsts[test];
                int b = tests.seconds[test];
                if (kind == '!') {
                    noteMay(test, hasBit(mayFail, a), hasBit(mayHold, a));
                    noteSure(test, hasBit(sureFail, a), hasBit(sureHold, a));
                } else if (kind == '&') {
                    noteMay(test, hasBit(mayHold, a) && hasBit(mayHold, b), hasEither(mayFail, a, b));
                    noteSure(test, hasBit(sureHold, a) && hasBit(sureHold, b), hasEither(sureFail, a, b));
                } else if (kind == '|') {
                    noteMay(test, hasEither(mayHold, a, b), hasBit(mayFail, a) && hasBit(mayFail, b));
                    noteSure(test, hasEither(sureHold, a, b), hasBit(sureFail, a) && hasBit(sureFail, b));
                } else if (kind == 'k') {
                    noteMay(test, true, true);
                    noteSure(test, true, true);
                } else {
                    boolean holds = sketch.mayHold(kind, a);
                    boolean fails = sketch.mayFail(kind, a);
                    noteMay(test, holds, fails);
                    noteSure(test, !fails, !holds);
                }
            }
        }

        // A test that looks at no flag and must fail can't hold as well, so its other uses can't build on that.
        private void noteMay(int test, boolean holds, boolean fails) {
            long bit = 1L << test;
            long steady = tests.steady & bit;
            if (holds && (steady & fail) == 0L) {
                mayHold |= bit;
            }
            if (fails && (steady & hold) == 0L) {
                mayFail |= bit;
            }
        }

        // That a test must hold is no proof that it does: what is sure comes from the sketch alone.
        private void noteSure(int test, boolean holds, boolean fails) {
            long bit = 1L << test;
            if (holds) {
                sureHold |= bit;
            }
            if (fails) {
                sureFail |= bit;
            }
        }

        private static boolean hasEither(long bits, int a, int b) {
            return hasBit(bits, a) || hasBit(bits, b);
        }

        /** Hands what must be down to the parts, as far as there is no choice; answers whether that was news. */
        private boolean handDown() {
            long oldHold = hold;
            long oldFail = fail;
            for (int i = askedCount - 1; i >= 0; i--) {
                int test = asked[i];
                char kind = tests.kinds[test];
                if (Tests.partsOf(kind) > 0) {
                    long first = 1L << tests.firsts[test];
                    long second = Tests.partsOf(kind) > 1 ? 1L << tests.seconds[test] : first;
                    if (hasBit(hold, test)) {
                        handDownHold(kind, first, second);
                    }
                    if (hasBit(fail, test)) {
                        handDownFail(kind, first, second);
                    }
                }
            }
            return hold != oldHold || fail != oldFail;
        }

        private void handDownHold(char kind, long first, long second) {
            if (kind == '!') {
                fail |= first;
            } else if (kind == '&') {
                hold |= first | second;
            } else if ((mayHold & first) == 0L) {
                hold |= second;
            } else if ((mayHold & second) == 0L) {
                hold |= first;
            }
        }

        private void handDownFail(char kind, long first, long second) {
            if (kind == '!') {
                hold |= first;
            } else if (kind == '|') {
                fail |= first | second;
            } else if ((mayFail & first) == 0L) {
                fail |= second;
            } else if ((mayFail & second) == 0L) {
                fail |= first;
            }
        }

        /** The last test that must be by one of its parts alone, while none of them is chosen or sure; or -1. */
        private int lastOpen() {
            for (int i = askedCount - 1; i >= 0; i--) {
                int test = asked[i];
                char kind = tests.kinds[test];
                if (kind == '|' && isOpen(hold, sureHold, test) || kind == '&' && isOpen(fail, sureFail, test)) {
                    return test;
                }
            }
            return -1;
        }

        private boolean isOpen(long must, long sure, int test) {
            return hasBit(must & ~sure, test)
                    && !hasEither(must, tests.firsts[test], tests.seconds[test]);
        }
    }

    /** Finds the least test that tells the mails that were moved to a box from all others. */
    private static final class Learner {
        private static final int MOST = 2 * PERSONS + 2 * WORDS + Office.MAILS + WEEKDAYS;

        private final Office office;
        /** The tests that hold for all mails that were moved, in their order. */
        private final char[] kinds = new char[MOST];
        private final int[] numbers = new int[MOST];
        private final boolean[] areContrary = new boolean[MOST];
        /** For which other mails they hold. */
        private final long[] misled = new long[MOST];
        private int count;
        private long moved;
        private long others;
        private int first;
        private int second;

        Learner(Office office) {
            this.office = office;
        }

        boolean finds(int box) {
            sortMails(box);
            if (moved == 0L) {
                return false;
            }
            listTests();
            return findsOne() || findsPair();
        }

        private void sortMails(int box) {
            moved = 0L;
            others = 0L;
            for (int i = 0; i < office.mailCount; i++) {
                Mail mail = office.mails[i];
                if (mail.liesIn(box) && mail.isMoved) {
                    moved |= 1L << i;
                } else if (mail.isKept()) {
                    others |= 1L << i;
                }
            }
        }

        private void listTests() {
            count = 0;
            listKind('f', PERSONS);
            listKind('t', PERSONS);
            listKind('s', WORDS);
            listKind('b', WORDS);
            int size = nextSize(0);
            for (int i = 0; i < Office.MAILS && size > 0; i++) {
                list('z', size - 1);
                size = nextSize(size);
            }
            listKind('d', WEEKDAYS);
        }

        private void listKind(char kind, int numbersOfKind) {
            for (int a = 0; a < numbersOfKind; a++) {
                list(kind, a);
            }
        }

        /** The next greater size of a mail that was delivered and is not gone, or 0. */
        private int nextSize(int size) {
            int next = 0;
            for (int i = 0; i < office.mailCount; i++) {
                Mail mail = office.mails[i];
                if (mail.isKept() && mail.size > size && (next == 0 || mail.size < next)) {
                    next = mail.size;
                }
            }
            return next;
        }

        /** Adds the test or its contrary if it holds for all that were moved; both never do. */
        private void list(char kind, int a) {
            long met = 0L;
            for (int i = 0; i < office.mailCount; i++) {
                if (Tests.fits(kind, a, office.mails[i], 0)) {
                    met |= 1L << i;
                }
            }
            boolean isContrary = (met & moved) == 0L;
            if (count < MOST && (isContrary || (moved & ~met) == 0L)) {
                kinds[count] = kind;
                numbers[count] = a;
                areContrary[count] = isContrary;
                misled[count] = others & (isContrary ? ~met : met);
                count++;
            }
        }

        private boolean findsOne() {
            for (int i = 0; i < count; i++) {
                if (misled[i] == 0L) {
                    first = i;
                    second = -1;
                    return true;
                }
            }
            return false;
        }

        private boolean findsPair() {
            for (int i = 0; i < count; i++) {
                for (int j = i + 1; j < count; j++) {
                    if ((misled[i] & misled[j]) == 0L) {
                        first = i;
                        second = j;
                        return true;
                    }
                }
            }
            return false;
        }

        int testsNeeded() {
            int needed = areContrary[first] ? 2 : 1;
            if (second >= 0) {
                needed += areContrary[second] ? 3 : 2;
            }
            return needed;
        }

        int writeInto(Tests tests) {
            int made = writePart(tests, first);
            if (second >= 0) {
                int behind = writePart(tests, second);
                made = tests.append('&', made, behind);
            }
            return made;
        }

        private int writePart(Tests tests, int part) {
            int made = tests.append(kinds[part], numbers[part], 0);
            return areContrary[part] ? tests.append('!', made, 0) : made;
        }
    }
}
