import java.util.concurrent.Callable;

/** Counts and prints the answers that are not the ones that are due. */
final class Check {
    private int wrong = 0;
    private int looked = 0;

    void due(String what, Object want, Callable<?> call) {
        looked++;
        Object got = answerOf(call);
        if (!want.equals(got)) {
            wrong++;
            System.out.println(what + " answered " + got + ", due is " + want);
        }
    }

    void refuses(String what, Class<? extends Exception> want, Callable<?> call) {
        due(what, "throws." + want.getSimpleName(), call);
    }

    /** What the last delivery or try did, by its codes. */
    void dueDone(String what, Filterbench x, int... codes) {
        due(what + ": done", codes.length, x::done);
        for (int i = 0; i < codes.length; i++) {
            int index = i;
            due(what + ": doneAt(" + i + ")", codes[i], () -> x.doneAt(index));
        }
    }

    /** The answer of a call, or the name of its exception; not that of a class below it. */
    static Object answerOf(Callable<?> call) {
        try {
            return call.call();
        } catch (Exception e) {
            return "throws." + e.getClass().getSimpleName();
        }
    }

    void end() {
        System.out.println(looked + " answers, " + wrong + " of them wrong");
        if (wrong != 0 || looked == 0) {
            System.exit(1);
        }
    }
}
