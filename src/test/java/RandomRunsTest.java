import java.util.Random;
import java.util.concurrent.Callable;

/** Long runs of calls by chance (always the same ones), each compared with the plain model. */
public final class RandomRunsTest {
    private static final long MOST_MAILS = 3000;
    private static final int CALLS = 512;

    private final Check check;
    private final Random random;
    private final int words;
    private final Filterbench bench = new Filterbench();
    private final PlainModel model = new PlainModel();
    private final int run;
    private int made = 0;

    private RandomRunsTest(Check check, int run) {
        this.check = check;
        this.run = run;
        random = new Random(run);
        words = 1 + random.nextInt(3);
    }

    public static void main(String[] args) {
        Check check = new Check();
        for (int run = 0; run < 1000; run++) {
            RandomRunsTest test = new RandomRunsTest(check, run);
            for (int i = 0; i < CALLS && test.made < CALLS; i++) {
                test.callSomething();
            }
        }
        check.end();
    }

    private void compare(String call, Callable<?> want, Callable<?> got) {
        if (made == CALLS) {
            return;
        }
        Object due = Check.answerOf(want);
        if (due != null) {
            made++;
            check.due("run " + run + ": " + call, due, got);
        }
    }

    /** Mostly below the bound, at times just outside. */
    private int below(int bound) {
        int dice = random.nextInt(40);
        return dice == 0 ? -1 : dice == 1 ? bound : bound > 0 ? random.nextInt(bound) : 0;
    }

    private int someWords() {
        return random.nextInt(60) == 0 ? 65536 : random.nextInt(1 << words);
    }

    private int someTest() {
        int count = model.tests.size();
        return random.nextBoolean() && count > 5 ? count - 1 - random.nextInt(5) : below(count);
    }

    private int someRule(int script) {
        return script >= 0 && script < 4 ? below(model.scripts.get(script).size()) : 0;
    }

    private void callSomething() {
        // The beginning builds, the rest uses what was built.
        int what = made < 150 ? random.nextInt(12) : random.nextInt(60);
        switch (what) {
            case 0, 1 -> addMail();
            case 2, 3, 4, 5 -> addTest();
            case 6, 7 -> addRule();
            case 8, 9, 10, 11 -> addAction();
            case 12, 13, 14, 15, 16, 17 -> { int m = below(model.mails.size()); compare("deliver " + m, () -> model.deliver(m), () -> bench.deliver(m)); lookAtLast(); }
            case 18, 19, 20 -> { int s = below(4); int m = below(model.mails.size()); compare("attempt " + s + " " + m, () -> model.attempt(s, m), () -> bench.attempt(s, m)); lookAtLast(); }
            case 21, 22 -> { int d = random.nextInt(8) == 0 ? random.nextInt(103) : 1 + random.nextInt(5); compare("pass", () -> model.pass(d), () -> bench.pass(d)); }
            case 23 -> { int b = below(8); int q = random.nextInt(20) == 0 ? 10000 : random.nextInt(4000); compare("setQuota", () -> model.setQuota(b, q), () -> bench.setQuota(b, q)); }
            case 24, 25 -> { int b = below(8); compare("inBox", () -> model.inBox(b), () -> bench.inBox(b)); }
            case 26 -> { int m = below(model.mails.size()); compare("boxOf", () -> model.boxOf(m), () -> bench.boxOf(m)); }
            case 27 -> { int m = below(model.mails.size()); int f = below(8); compare("hasFlag", () -> model.hasFlag(m, f), () -> bench.hasFlag(m, f)); }
            case 28, 29, 30, 31 -> { int m = below(model.mails.size()); int b = 1 + below(3); compare("move", () -> model.move(m, b), () -> bench.move(m, b)); }
            case 32, 33 -> { int t = someTest(); int m = below(model.mails.size()); compare("holds", () -> model.holds(t, m), () -> bench.holds(t, m)); }
            case 34 -> { int s = below(4); if (random.nextInt(6) == 0) { compare("clear", () -> model.clear(s), () -> bench.clear(s)); } }
            case 35, 36 -> { int s = below(4); int r = someRule(s); int p = someRule(s); compare("reorder", () -> model.reorder(s, r, p), () -> bench.reorder(s, r, p)); }
            case 37, 38 -> { int p = below(10); compare("replies", () -> model.replies(p), () -> bench.replies(p)); }
            case 39, 40 -> { int p = below(10); compare("forwarded", () -> model.forwarded(p), () -> bench.forwarded(p)); }
            case 41 -> { int s = below(4); int o = below(4); compare("difference", () -> model.difference(s, o), () -> bench.difference(s, o)); }
            case 42, 43, 44, 45 -> { int s = below(4); int r = someRule(s); compare("isShadowed", () -> model.isShadowed(s, r, MOST_MAILS), () -> bench.isShadowed(s, r)); }
            case 46, 47, 48 -> { int t = someTest(); int o = someTest(); compare("areSame", () -> model.areSame(t, o, MOST_MAILS), () -> bench.areSame(t, o)); }
            case 49, 50, 51 -> { int b = 1 + below(3); compare("learn " + b, () -> model.learn(b), () -> bench.learn(b)); }
            case 52 -> compare("sum", model::sum, bench::sum);
            case 53 -> compare("goneShare", model::goneShare, bench::goneShare);
            case 54, 55 -> { int b = below(8); compare("meanSize", () -> model.meanSize(b), () -> bench.meanSize(b)); }
            case 56 -> compare("isTrue", () -> model.isTrue(MOST_MAILS), bench::isTrue);
            default -> lookAtLast();
        }
    }

    private void addMail() {
        int sender = below(4);
        int receivers = random.nextInt(50) == 0 ? 1024 : random.nextInt(random.nextBoolean() ? 16 : 1024);
        int subject = someWords();
        int body = someWords();
        int size = random.nextInt(40) == 0 ? 1000 : random.nextInt(4) == 0 ? random.nextInt(1000) : 100 * random.nextInt(5);
        compare("mail", () -> model.mail(sender, receivers, subject, body, size), () -> bench.mail(sender, receivers, subject, body, size));
    }

    private void addTest() {
        String kinds = "aftsbzdnk!&|!&|!&|&|&|";
        char kind = random.nextInt(60) == 0 ? 'q' : kinds.charAt(random.nextInt(kinds.length()));
        int b = someTest();
        int a = switch (kind) {
            case 'f', 't' -> below(random.nextBoolean() ? 3 : 10);
            case 's', 'b' -> below(random.nextInt(10) == 0 ? 16 : words);
            case 'z' -> random.nextBoolean() ? below(1000) : 100 * random.nextInt(5);
            case 'd' -> below(random.nextBoolean() ? 2 : 7);
            case 'n' -> below(12);
            case 'k' -> below(random.nextBoolean() ? 2 : 8);
            default -> someTest();
        };
        // Half of the runs keep room for tests that are learned.
        if (model.tests.size() < 40 || run % 2 == 0) {
            compare("test " + kind, () -> model.test(kind, a, b), () -> bench.test(kind, a, b));
        }
    }

    private void addRule() {
        int script = below(4);
        int test = someTest();
        compare("rule", () -> model.rule(script, test), () -> bench.rule(script, test));
    }

    private void addAction() {
        int script = below(4);
        int rule = someRule(script);
        String kinds = run % 3 == 0 ? "mkxrcwFUvisSiiiFU" : "mkxrcwFUvisSssmcF";
        char kind = random.nextInt(60) == 0 ? 'q' : kinds.charAt(random.nextInt(kinds.length()));
        int a = switch (kind) {
            case 'm', 'c' -> below(4);
            case 'F', 'U' -> below(random.nextBoolean() ? 2 : 8);
            case 'v' -> random.nextInt(33);
            case 'i' -> below(4);
            default -> below(10);
        };
        compare("action " + kind, () -> model.action(script, rule, kind, a), () -> bench.action(script, rule, kind, a));
    }

    private void lookAtLast() {
        compare("done", model::done, bench::done);
        compare("clashes", model::clashes, bench::clashes);
        compare("flags", model::flags, bench::flags);
        char kind = "iwqx".charAt(random.nextInt(4));
        compare("faults " + kind, () -> model.faults(kind), () -> bench.faults(kind));
        int index = below(model.done());
        compare("doneAt " + index, () -> model.doneAt(index), () -> bench.doneAt(index));
    }
}
