import java.util.ArrayList;
import java.util.List;

/** Counts what a test looked at, and prints each answer that is not the one that is due. */
final class Check {
    /** A call that may throw. */
    interface Call {
        void run();
    }

    private final String name;
    private int passed = 0;
    private int failed = 0;

    Check(String name) {
        this.name = name;
    }

    void same(String what, long got, long due) {
        same(what, Long.toString(got), Long.toString(due));
    }

    void same(String what, String got, String due) {
        if (got.equals(due)) {
            passed++;
        } else {
            failed++;
            System.out.println(name + ": " + what + " answered " + got + ", due is " + due);
        }
    }

    void yes(String what, boolean got) {
        same(what, Boolean.toString(got), "true");
    }

    void no(String what, boolean got) {
        same(what, Boolean.toString(got), "false");
    }

    /** The call throws just that kind, and all answers of the object stay what they were. */
    void refused(Chamberwright x, String what, Class<? extends RuntimeException> kind, Call call) {
        String before = Snapshot.of(x);
        same(what + " throws", thrownBy(call), kind.getSimpleName());
        same("the state behind the refused " + what, Snapshot.of(x), before);
    }

    static String thrownBy(Call call) {
        try {
            call.run();
            return "nothing";
        } catch (RuntimeException e) {
            return e.getClass().getSimpleName();
        }
    }

    void endsWell() {
        System.out.println(name + ": " + passed + " answers as due, " + failed + " not");
        if (failed > 0 || passed == 0) {
            System.exit(1);
        }
    }

    /** Joins answers so that a whole row of them is looked at in one line of a test. */
    static String row(int... numbers) {
        List<String> texts = new ArrayList<>();
        for (int number : numbers) {
            texts.add(Integer.toString(number));
        }
        return String.join(" ", texts);
    }
}
