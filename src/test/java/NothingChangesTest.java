import java.util.ArrayList;
import java.util.List;
import java.util.concurrent.Callable;

/**
 * Does the same calls on two objects, on one of them with calls between that throw or that only ask: none of these may
 * change what the others answer.
 */
public final class NothingChangesTest {
    private static final Check C = new Check();

    private final Filterbench left = new Filterbench();
    private final Filterbench disturbed = new Filterbench();
    private int step = 0;

    interface Call {
        Object on(Filterbench x);
    }

    public static void main(String[] args) {
        for (int start = 0; start < 6; start++) {
            NothingChangesTest test = new NothingChangesTest();
            test.step = start;
            test.run();
        }
        C.end();
    }

    private void run() {
        List<Call> calls = story();
        for (int i = 0; i < calls.size(); i++) {
            Call call = calls.get(i);
            disturb();
            Object want = Check.answerOf(() -> call.on(left));
            C.due("call " + i, want, () -> call.on(disturbed));
        }
    }

    private static List<Call> story() {
        List<Call> c = new ArrayList<>();
        c.add(x -> x.mail(1, 6, 3, 1, 100));
        c.add(x -> x.mail(2, 1, 1, 0, 300));
        c.add(x -> x.pass(3));
        c.add(x -> x.mail(1, 8, 2, 2, 200));
        c.add(x -> x.test('f', 1, 0));
        c.add(x -> x.test('k', 2, 0));
        c.add(x -> x.test('a', 0, 0));
        c.add(x -> x.test('!', 0, 0));
        c.add(x -> x.rule(0, 0));
        c.add(x -> x.action(0, 0, 'F', 2));
        c.add(x -> x.action(0, 0, 'v', 2));
        c.add(x -> x.action(0, 0, 'w', 7));
        c.add(x -> x.action(0, 0, 'w', 7));
        c.add(x -> x.rule(0, 1));
        c.add(x -> x.action(0, 1, 'c', 1));
        c.add(x -> x.action(0, 1, 'i', 1));
        c.add(x -> x.rule(0, 2));
        c.add(x -> x.action(0, 2, 'm', 2));
        c.add(x -> x.rule(1, 2));
        c.add(x -> x.action(1, 0, 'i', 1));
        c.add(x -> x.action(1, 0, 'k', 1));
        c.add(x -> x.rule(2, 0));
        c.add(x -> x.action(2, 0, 's', 1));
        c.add(x -> x.rule(2, 0));
        c.add(x -> x.deliver(0));
        c.add(Filterbench::done);
        c.add(x -> x.doneAt(4));
        c.add(Filterbench::clashes);
        c.add(x -> x.faults('i'));
        c.add(x -> x.faults('w'));
        c.add(x -> x.faults('q'));
        c.add(Filterbench::flags);
        c.add(x -> x.replies(1));
        c.add(x -> x.forwarded(7));
        c.add(x -> x.inBox(1));
        c.add(x -> x.boxOf(0));
        c.add(x -> x.hasFlag(0, 2));
        c.add(x -> x.deliver(1));
        c.add(x -> x.deliver(2));
        c.add(Filterbench::done);
        c.add(x -> x.replies(1));
        c.add(x -> x.move(1, 3));
        c.add(x -> x.learn(3));
        c.add(x -> x.holds(4, 1));
        c.add(x -> x.reorder(0, 0, 2));
        c.add(x -> x.deliver(0));
        c.add(Filterbench::done);
        c.add(x -> x.doneAt(0));
        c.add(x -> x.setQuota(1, 150));
        c.add(x -> x.attempt(0, 2));
        c.add(x -> x.faults('q'));
        c.add(x -> x.meanSize(0));
        c.add(Filterbench::sum);
        c.add(Filterbench::goneShare);
        c.add(x -> x.test('a', 0, 0));
        c.add(x -> x.rule(3, 0));
        c.add(x -> x.clear(0));
        c.add(x -> x.deliver(0));
        c.add(x -> x.pass(1));
        return c;
    }

    /** Six calls of the disturbing ones, in turns; with the story they stay below 512. */
    private void disturb() {
        List<Callable<?>> all = disturbing(disturbed);
        for (int i = 0; i < 6; i++) {
            Callable<?> call = all.get(step % all.size());
            boolean mustThrow = step % all.size() < all.size() - ASKING;
            Object answer = Check.answerOf(call);
            if (mustThrow && !answer.toString().startsWith("throws.")) {
                C.due("disturbing call " + step % all.size(), "an exception", () -> answer);
            }
            step++;
        }
    }

    private static final int ASKING = 17;

    private static List<Callable<?>> disturbing(Filterbench x) {
        List<Callable<?>> c = new ArrayList<>();
        c.add(() -> x.mail(1, 1, 0, 0, 0));
        c.add(() -> x.mail(10, 1, 0, 0, 5));
        c.add(() -> x.pass(0));
        c.add(() -> x.pass(101));
        c.add(() -> x.setQuota(1, 10000));
        c.add(() -> x.setQuota(0, 100));
        c.add(() -> x.inBox(8));
        c.add(() -> x.boxOf(3));
        c.add(() -> x.hasFlag(0, 8));
        c.add(() -> x.move(0, 8));
        c.add(() -> x.move(3, 1));
        c.add(() -> x.test('q', 0, 0));
        c.add(() -> x.test('&', 0, 50));
        c.add(() -> x.test('n', 0, 0));
        c.add(() -> x.holds(0, 3));
        c.add(() -> x.rule(4, 0));
        c.add(() -> x.rule(0, 50));
        c.add(() -> x.action(0, 0, 'q', 0));
        c.add(() -> x.action(0, 0, 'v', 31));
        c.add(() -> x.action(0, 12, 'k', 0));
        c.add(() -> x.clear(4));
        c.add(() -> x.reorder(0, 0, 12));
        c.add(() -> x.reorder(0, 12, 0));
        c.add(() -> x.deliver(3));
        c.add(() -> x.attempt(0, 3));
        c.add(() -> x.attempt(4, 0));
        c.add(() -> x.doneAt(200));
        c.add(() -> x.faults('x'));
        c.add(() -> x.replies(10));
        c.add(() -> x.forwarded(-1));
        c.add(() -> x.difference(0, 4));
        c.add(() -> x.isShadowed(0, 12));
        c.add(() -> x.areSame(0, 50));
        c.add(() -> x.learn(7));
        c.add(() -> x.learn(8));
        c.add(() -> x.meanSize(8));
        c.add(() -> x.meanSize(6));
        c.add(() -> x.inBox(1));
        c.add(() -> x.boxOf(0));
        c.add(() -> x.hasFlag(0, 2));
        c.add(() -> x.holds(1, 0));
        c.add(x::done);
        c.add(x::clashes);
        c.add(x::flags);
        c.add(() -> x.replies(1));
        c.add(() -> x.forwarded(7));
        c.add(() -> x.difference(0, 3));
        c.add(() -> x.difference(2, 0));
        c.add(() -> x.isShadowed(2, 1));
        c.add(() -> x.areSame(0, 1));
        c.add(x::sum);
        c.add(x::goneShare);
        c.add(() -> x.meanSize(0));
        c.add(x::isTrue);
        return c;
    }
}
