import java.util.ArrayList;
import java.util.List;

/** Counts what a test looked at, and prints each answer that is not the one that is due. */
final class Check {
    /** A way to make one object, always the same. */
    interface Made {
        Chamberwright anew();
    }

    /** A call on an object, which may throw. */
    interface Asked {
        void of(Chamberwright x);
    }

    /** A broken class has thousands of wrong answers; of each sentence the first ones tell enough. */
    private static final int MOST_TOLD = 20;

    private final String name;
    private String sentence = "";
    private int told = 0;
    private int passed = 0;
    private int failed = 0;

    Check(String name) {
        this.name = name;
    }

    /**
     * Looks at what is due by one sentence of the document. A test that looks at nothing has failed, and so has one
     * that ends with an exception; the next ones go on.
     */
    void sentence(String words, Runnable test) {
        sentence = words;
        told = 0;
        int before = passed + failed;
        try {
            test.run();
        } catch (RuntimeException e) {
            wrong("ended with " + e + " at " + place(e));
        }
        if (passed + failed == before) {
            wrong("looked at nothing");
        }
        sentence = "";
    }

    /** Where in the tests the call stands that threw. */
    private static String place(RuntimeException e) {
        for (StackTraceElement element : e.getStackTrace()) {
            if (!element.getClassName().startsWith("Chamberwright")) {
                return element.toString();
            }
        }
        return "no known place";
    }

    private void wrong(String what) {
        failed++;
        told++;
        if (told <= MOST_TOLD) {
            System.out.println(name + ": " + (sentence.isEmpty() ? "" : "[" + sentence + "] ") + what);
        }
    }

    void same(String what, long got, long due) {
        same(what, Long.toString(got), Long.toString(due));
    }

    void same(String what, String got, String due) {
        if (got.equals(due)) {
            passed++;
        } else {
            wrong(what + " answered " + got + ", due is " + due);
        }
    }

    void yes(String what, boolean got) {
        same(what, Boolean.toString(got), "true");
    }

    void no(String what, boolean got) {
        same(what, Boolean.toString(got), "false");
    }

    /**
     * The call throws just that kind, and behind it the object answers as one does that was made in the same
     * way and never had that call.
     */
    void refused(Made made, String what, Class<? extends RuntimeException> kind, Asked call) {
        Chamberwright x = made.anew();
        same(what + " throws", thrownBy(x, call), kind.getSimpleName());
        same("the state behind the refused " + what, Snapshot.last(x), Snapshot.last(made.anew()));
    }

    static String thrownBy(Chamberwright x, Asked call) {
        try {
            call.of(x);
            return "nothing";
        } catch (RuntimeException e) {
            return e.getClass().getSimpleName();
        }
    }

    void endsWell() {
        System.out.println(name + ": " + passed + " answers as due, " + failed + " not");
        if (failed > 0 || passed == 0) {
            System.exit(1);
        }
    }

    /** Joins answers so that a whole row of them is looked at in one line of a test. */
    static String row(int... numbers) {
        List<String> texts = new ArrayList<>();
        for (int number : numbers) {
            texts.add(Integer.toString(number));
        }
        return String.join(" ", texts);
    }
}
