import java.util.ArrayList;
import java.util.List;
import java.util.NoSuchElementException;
import java.util.TreeSet;

/**
 * The document once more, written as plainly as it goes and without thought of cost, to compare with. It looks for a
 * shadowed rule and for tests that are the same by trying all mails that the tests can tell apart.
 */
final class PlainModel {
    static final class Mail {
        int sender, receivers, subject, body, size, day;
        int box = -1;
        int flags;
        boolean delivered, gone;
        int movedTo = -1;
    }

    record Test(char kind, int a, int b) { }

    record Action(char kind, int a) { }

    static final class Rule {
        int test;
        List<Action> actions = new ArrayList<>();
    }

    /** What one delivery or try did. */
    final class Run {
        final Mail mail;
        final List<Integer> done = new ArrayList<>();
        final List<Character> kindsDone = new ArrayList<>();
        final List<Integer> copies = new ArrayList<>();
        final List<Integer> forwards = new ArrayList<>();
        final TreeSet<Integer> rulesDone = new TreeSet<>();
        char fate = 0;
        int box = 0;
        boolean replied, all;
        int flags, clashes, nested, round, quota;

        Run(Mail mail) {
            this.mail = mail;
        }

        int outcome() {
            return fate == 'x' ? 8 : fate == 'r' ? 9 : box;
        }

        int load(int b) {
            int load = 0;
            for (Mail m : mails) {
                if (m != mail && m.delivered && !m.gone && m.box == b) {
                    load += m.size;
                }
            }
            for (int[] copy : copiesMade) {
                load += copy[0] == b ? copy[1] : 0;
            }
            for (int c : copies) {
                load += c == b ? mail.size : 0;
            }
            return load + (fate == 'm' && box == b ? mail.size : 0);
        }

        boolean overflows(int b) {
            return b > 0 && load(b) + mail.size > quotas[b];
        }

        void script(int number, int above) {
            for (int r = 0; r < scripts.get(number).size() && !all; r++) {
                Rule rule = scripts.get(number).get(r);
                if (!truth(mail, flags)[rule.test]) {
                    continue;
                }
                if (above == 0) {
                    rulesDone.add(r);
                }
                for (int i = 0; i < rule.actions.size() && !all; i++) {
                    if (step(rule.actions.get(i), 1000 * number + 10 * r + i, above)) {
                        return;
                    }
                }
            }
        }

        private boolean did(String kinds) {
            return kindsDone.stream().anyMatch(k -> kinds.indexOf(k) >= 0);
        }

        private boolean step(Action action, int code, int above) {
            char kind = action.kind();
            int a = action.a();
            if ("mkxr".indexOf(kind) >= 0 && fate != 0 || kind == 'r' && did("cwv") || "cwv".indexOf(kind) >= 0 && did("r")) {
                clashes++;
                return false;
            }
            if (kind == 'i' && above == 4) {
                nested++;
                return false;
            }
            if (kind == 'w' && (a == mail.sender || (mail.receivers & 1 << a) != 0 || forwards.contains(a))) {
                round++;
                return false;
            }
            if (kind == 'c' && overflows(a)) {
                quota++;
                return false;
            }
            if (done.size() == 200) {
                all = true;
                return false;
            }
            done.add(code);
            kindsDone.add(kind);
            switch (kind) {
                case 'm' -> {
                    boolean over = overflows(a);
                    quota += over ? 1 : 0;
                    fate = 'm';
                    box = over ? 0 : a;
                }
                case 'k', 'x', 'r' -> fate = kind;
                case 'c' -> copies.add(a);
                case 'w' -> forwards.add(a);
                case 'F' -> flags |= 1 << a;
                case 'U' -> flags &= ~(1 << a);
                case 'v' -> replied |= repliesMade.stream().noneMatch(r -> r[0] == mail.sender && r[1] > today - a);
                case 'i' -> script(a, above + 1);
                case 'S' -> all = true;
                default -> { }
            }
            return kind == 's';
        }
    }

    final List<Mail> mails = new ArrayList<>();
    final List<Test> tests = new ArrayList<>();
    final List<List<Rule>> scripts = new ArrayList<>();
    final int[] quotas = {0, 2000, 2000, 2000, 2000, 2000, 2000, 2000};
    final List<int[]> copiesMade = new ArrayList<>();
    final List<int[]> repliesMade = new ArrayList<>();
    final List<Integer> forwardsMade = new ArrayList<>();
    int today = 0;
    Run last = new Run(new Mail());

    PlainModel() {
        for (int i = 0; i < 4; i++) {
            scripts.add(new ArrayList<>());
        }
    }

    private static void in(int x, int low, int high) {
        if (x < low || x > high) {
            throw new IllegalArgumentException();
        }
    }

    private static void index(int x, int low, int high) {
        if (x < low || x > high) {
            throw new IndexOutOfBoundsException();
        }
    }

    private Mail of(int mail) {
        index(mail, 0, mails.size() - 1);
        return mails.get(mail);
    }

    private Mail kept(int mail) {
        Mail m = of(mail);
        if (!m.delivered || m.gone) {
            throw new NoSuchElementException();
        }
        return m;
    }

    private List<Mail> in(int box) {
        index(box, 0, 7);
        return mails.stream().filter(m -> m.delivered && !m.gone && m.box == box).toList();
    }

    int mail(int sender, int receivers, int subject, int body, int size) {
        in(sender, 0, 9);
        in(receivers, 1, 1023);
        in(subject, 0, 65535);
        in(body, 0, 65535);
        in(size, 1, 999);
        if (mails.size() == 40) {
            throw new IllegalStateException();
        }
        Mail m = new Mail();
        m.sender = sender;
        m.receivers = receivers;
        m.subject = subject;
        m.body = body;
        m.size = size;
        m.day = today;
        mails.add(m);
        return mails.size() - 1;
    }

    int pass(int days) {
        in(days, 1, 100);
        return today += days;
    }

    int setQuota(int box, int quota) {
        index(box, 1, 7);
        in(quota, 0, 9999);
        int before = quotas[box];
        quotas[box] = quota;
        return before;
    }

    int inBox(int box) {
        int sum = in(box).stream().mapToInt(m -> m.size).sum();
        return sum + copiesMade.stream().filter(c -> c[0] == box).mapToInt(c -> c[1]).sum();
    }

    int boxOf(int mail) {
        return kept(mail).box;
    }

    boolean hasFlag(int mail, int flag) {
        Mail m = of(mail);
        index(flag, 0, 7);
        return (m.flags & 1 << flag) != 0;
    }

    int move(int mail, int box) {
        of(mail);
        index(box, 0, 7);
        Mail m = kept(mail);
        int before = m.box;
        m.box = box;
        m.movedTo = box;
        return before;
    }

    int test(char kind, int a, int b) {
        int at = "aftsbzdnk!&|".indexOf(kind);
        if (at < 0) {
            throw new IllegalArgumentException();
        }
        int[] lows = {0, 0, 0, 0, 0, 0, 0, 1, 0};
        int[] highs = {0, 9, 9, 15, 15, 999, 6, 10, 7};
        if (at > 0 && at < 9) {
            in(a, lows[at], highs[at]);
        }
        if (at >= 9) {
            index(a, 0, tests.size() - 1);
        }
        if (at >= 10) {
            index(b, 0, tests.size() - 1);
        }
        if (tests.size() == 60) {
            throw new IllegalStateException();
        }
        tests.add(new Test(kind, a, b));
        return tests.size() - 1;
    }

    boolean[] truth(Mail m, int flags) {
        boolean[] truth = new boolean[tests.size()];
        for (int i = 0; i < truth.length; i++) {
            Test t = tests.get(i);
            truth[i] = switch (t.kind()) {
                case '!' -> !truth[t.a()];
                case '&' -> truth[t.a()] && truth[t.b()];
                case '|' -> truth[t.a()] || truth[t.b()];
                case 'k' -> (flags & 1 << t.a()) != 0;
                default -> plain(t, m);
            };
        }
        return truth;
    }

    static boolean plain(Test t, Mail m) {
        return switch (t.kind()) {
            case 'f' -> m.sender == t.a();
            case 't' -> (m.receivers & 1 << t.a()) != 0;
            case 's' -> (m.subject & 1 << t.a()) != 0;
            case 'b' -> (m.body & 1 << t.a()) != 0;
            case 'z' -> m.size > t.a();
            case 'd' -> m.day % 7 == t.a();
            case 'n' -> Integer.bitCount(m.receivers) >= t.a();
            default -> true;
        };
    }

    boolean holds(int test, int mail) {
        index(test, 0, tests.size() - 1);
        Mail m = of(mail);
        return truth(m, m.flags)[test];
    }

    int rule(int script, int test) {
        index(script, 0, 3);
        index(test, 0, tests.size() - 1);
        if (scripts.get(script).size() == 12) {
            throw new IllegalStateException();
        }
        Rule rule = new Rule();
        rule.test = test;
        scripts.get(script).add(rule);
        return scripts.get(script).size() - 1;
    }

    int action(int script, int rule, char kind, int a) {
        index(script, 0, 3);
        index(rule, 0, scripts.get(script).size() - 1);
        switch (kind) {
            case 'm', 'c', 'F', 'U' -> in(a, 0, 7);
            case 'w' -> in(a, 0, 9);
            case 'v' -> in(a, 1, 30);
            case 'i' -> in(a, 0, 3);
            case 'k', 'x', 'r', 's', 'S' -> { }
            default -> throw new IllegalArgumentException();
        }
        List<Action> actions = scripts.get(script).get(rule).actions;
        if (actions.size() == 5) {
            throw new IllegalStateException();
        }
        actions.add(new Action(kind, a));
        return actions.size();
    }

    int clear(int script) {
        index(script, 0, 3);
        int before = scripts.get(script).size();
        scripts.get(script).clear();
        return before;
    }

    int reorder(int script, int rule, int place) {
        index(script, 0, 3);
        List<Rule> rules = scripts.get(script);
        index(rule, 0, rules.size() - 1);
        index(place, 0, rules.size() - 1);
        rules.add(place, rules.remove(rule));
        return rules.size();
    }

    private Run go(int script, Mail m) {
        Run run = new Run(m);
        run.script(script, 0);
        return run;
    }

    int deliver(int mail) {
        Mail m = of(mail);
        last = go(0, m);
        m.delivered = true;
        m.movedTo = -1;
        m.gone = last.outcome() > 7;
        m.box = last.outcome();
        m.flags = last.flags;
        for (int box : last.copies) {
            copiesMade.add(new int[] {box, m.size});
        }
        forwardsMade.addAll(last.forwards);
        if (last.replied) {
            repliesMade.add(new int[] {m.sender, today});
        }
        return last.outcome();
    }

    int attempt(int script, int mail) {
        index(script, 0, 3);
        last = go(script, of(mail));
        return last.outcome();
    }

    int done() {
        return last.done.size();
    }

    int doneAt(int index) {
        index(index, 0, last.done.size() - 1);
        return last.done.get(index);
    }

    int clashes() {
        return last.clashes;
    }

    int faults(char kind) {
        return switch (kind) {
            case 'i' -> last.nested;
            case 'w' -> last.round;
            case 'q' -> last.quota;
            default -> throw new IllegalArgumentException();
        };
    }

    int flags() {
        return last.flags;
    }

    int replies(int person) {
        index(person, 0, 9);
        return (int) repliesMade.stream().filter(r -> r[0] == person).count();
    }

    int forwarded(int person) {
        index(person, 0, 9);
        return (int) forwardsMade.stream().filter(p -> p == person).count();
    }

    int difference(int script, int other) {
        index(script, 0, 3);
        index(other, 0, 3);
        return (int) mails.stream().filter(m -> {
            Run one = go(script, m);
            Run two = go(other, m);
            return one.outcome() != two.outcome() || one.flags != two.flags;
        }).count();
    }

    /** Whether a test can hold ([0][i]) and whether it can fail ([1][i]) for a mail, 'k' as may be. */
    private boolean[][] chances(Mail m) {
        boolean[][] can = new boolean[2][tests.size()];
        for (int i = 0; i < tests.size(); i++) {
            Test t = tests.get(i);
            for (int way = 0; way < 2; way++) {
                int other = 1 - way;
                can[way][i] = switch (t.kind()) {
                    case 'k' -> true;
                    case '!' -> can[other][t.a()];
                    case '&' -> way == 0 ? can[0][t.a()] && can[0][t.b()] : can[1][t.a()] || can[1][t.b()];
                    case '|' -> way == 0 ? can[0][t.a()] || can[0][t.b()] : can[1][t.a()] && can[1][t.b()];
                    default -> plain(t, m) == (way == 0);
                };
            }
        }
        return can;
    }

    /** All numbers of one field that the wanted tests can tell apart. */
    private List<Integer> values(boolean[] wanted, String kinds) {
        TreeSet<Integer> mentioned = new TreeSet<>();
        boolean counts = false;
        for (int i = 0; i < tests.size(); i++) {
            if (wanted[i] && kinds.indexOf(tests.get(i).kind()) >= 0) {
                counts |= tests.get(i).kind() == 'n';
                mentioned.add(tests.get(i).a());
            }
        }
        TreeSet<Integer> values = new TreeSet<>();
        switch (kinds) {
            case "f", "d" -> {
                int end = kinds.equals("f") ? 10 : 7;
                for (int v = 0; v < end; v++) {
                    if (mentioned.contains(v) || values.size() == values.stream().filter(mentioned::contains).count()) {
                        values.add(v);
                    }
                }
            }
            case "z" -> {
                values.add(1);
                mentioned.stream().filter(a -> a > 0 && a < 999).forEach(a -> values.add(a + 1));
            }
            case "tn" -> {
                int bits = counts ? 1023 : mentioned.stream().mapToInt(a -> 1 << a).sum() | Integer.highestOneBit(1023 & ~mentioned.stream().mapToInt(a -> 1 << a).sum());
                for (int v = 1; v < 1024; v++) {
                    if ((v & ~bits) == 0) {
                        values.add(v);
                    }
                }
            }
            default -> {
                int bits = mentioned.stream().mapToInt(a -> 1 << a).sum();
                for (int v = 0; v < 65536; v++) {
                    if ((v & ~bits) == 0) {
                        values.add(v);
                    }
                }
            }
        }
        return new ArrayList<>(values);
    }

    interface Look {
        boolean at(boolean[][] can);
    }

    /** 1 or 0: whether a mail is found for which the look is true; -1 if there are more mails than can be tried. */
    private int search(int[] roots, Look look, long most) {
        boolean[] wanted = new boolean[tests.size()];
        for (int root : roots) {
            wanted[root] = true;
        }
        for (int i = wanted.length - 1; i >= 0; i--) {
            Test t = tests.get(i);
            if (wanted[i] && "!&|".indexOf(t.kind()) >= 0) {
                wanted[t.a()] = true;
                if (t.kind() != '!') {
                    wanted[t.b()] = true;
                }
            }
        }
        List<List<Integer>> all = new ArrayList<>();
        long product = 1;
        for (String kinds : new String[] {"f", "tn", "s", "b", "z", "d"}) {
            all.add(values(wanted, kinds));
            product *= all.get(all.size() - 1).size();
        }
        if (product > most) {
            return -1;
        }
        for (long n = 0; n < product; n++) {
            long rest = n;
            int[] chosen = new int[6];
            for (int i = 0; i < 6; i++) {
                chosen[i] = all.get(i).get((int) (rest % all.get(i).size()));
                rest /= all.get(i).size();
            }
            Mail m = new Mail();
            m.sender = chosen[0];
            m.receivers = chosen[1];
            m.subject = chosen[2];
            m.body = chosen[3];
            m.size = chosen[4];
            m.day = chosen[5];
            if (look.at(chances(m))) {
                return 1;
            }
        }
        return 0;
    }

    /** True, false, or null if there are too many mails to try. */
    Boolean isShadowed(int script, int rule, long most) {
        index(script, 0, 3);
        List<Rule> rules = scripts.get(script);
        index(rule, 0, rules.size() - 1);
        List<Integer> ahead = new ArrayList<>();
        for (Rule r : rules.subList(0, rule)) {
            if (r.actions.stream().anyMatch(x -> x.kind() == 's' || x.kind() == 'S')) {
                ahead.add(r.test);
            }
        }
        int goal = rules.get(rule).test;
        int[] roots = new int[ahead.size() + 1];
        for (int i = 0; i < ahead.size(); i++) {
            roots[i] = ahead.get(i);
        }
        roots[ahead.size()] = goal;
        int found = search(roots, can -> can[0][goal] && ahead.stream().allMatch(t -> can[1][t]), most);
        return found < 0 ? null : found == 0;
    }

    Boolean areSame(int test, int other, long most) {
        index(test, 0, tests.size() - 1);
        index(other, 0, tests.size() - 1);
        int found = search(new int[] {test, other},
                can -> can[0][test] && can[1][other] || can[0][other] && can[1][test], most);
        return found < 0 ? null : found == 0;
    }

    record Part(Test test, boolean contrary) {
        boolean holdsFor(Mail m) {
            return plain(test, m) != contrary;
        }
    }

    int learn(int box) {
        index(box, 0, 7);
        List<Mail> kept = mails.stream().filter(m -> m.delivered && !m.gone).toList();
        List<Mail> moved = kept.stream().filter(m -> m.movedTo == box).toList();
        if (moved.isEmpty()) {
            throw new NoSuchElementException();
        }
        List<Part> parts = new ArrayList<>();
        for (char kind : "ftsbzd".toCharArray()) {
            for (int a = 0; a < 1000; a++) {
                int size = a + 1;
                boolean there = switch (kind) {
                    case 'f', 't' -> a < 10;
                    case 's', 'b' -> a < 16;
                    case 'd' -> a < 7;
                    default -> kept.stream().anyMatch(m -> m.size == size);
                };
                if (there) {
                    parts.add(new Part(new Test(kind, a, 0), false));
                    parts.add(new Part(new Test(kind, a, 0), true));
                }
            }
        }
        for (Part p : parts) {
            if (kept.stream().allMatch(m -> p.holdsFor(m) == moved.contains(m))) {
                return write(List.of(p));
            }
        }
        for (int i = 0; i < parts.size(); i++) {
            for (int j = i + 1; j < parts.size(); j++) {
                Part p = parts.get(i);
                Part q = parts.get(j);
                if (kept.stream().allMatch(m -> (p.holdsFor(m) && q.holdsFor(m)) == moved.contains(m))) {
                    return write(List.of(p, q));
                }
            }
        }
        throw new NoSuchElementException();
    }

    private int write(List<Part> parts) {
        List<Test> made = new ArrayList<>();
        List<Integer> ends = new ArrayList<>();
        for (Part p : parts) {
            made.add(p.test());
            if (p.contrary()) {
                made.add(new Test('!', tests.size() + made.size() - 1, 0));
            }
            ends.add(tests.size() + made.size() - 1);
        }
        if (parts.size() == 2) {
            made.add(new Test('&', ends.get(0), ends.get(1)));
        }
        if (tests.size() + made.size() > 60) {
            throw new IllegalStateException();
        }
        tests.addAll(made);
        return tests.size() - 1;
    }

    long sum() {
        return mails.stream().filter(m -> !m.gone).mapToLong(m -> m.size).sum();
    }

    float goneShare() {
        long delivered = mails.stream().filter(m -> m.delivered).count();
        if (delivered == 0) {
            throw new ArithmeticException();
        }
        return (float) mails.stream().filter(m -> m.gone).count() / (float) delivered;
    }

    double meanSize(int box) {
        List<Mail> here = in(box);
        if (here.isEmpty()) {
            throw new ArithmeticException();
        }
        return (double) here.stream().mapToInt(m -> m.size).sum() / (double) here.size();
    }

    /** Null if some rule has too many mails to try. */
    Boolean isTrue(long most) {
        boolean unknown = false;
        for (int script = 0; script < 4; script++) {
            TreeSet<Integer> done = new TreeSet<>();
            for (Mail m : mails) {
                done.addAll(go(script, m).rulesDone);
            }
            for (int rule : done) {
                Boolean shadowed = isShadowed(script, rule, most);
                if (shadowed == null) {
                    unknown = true;
                } else if (shadowed) {
                    return false;
                }
            }
        }
        return unknown ? null : true;
    }
}
