import java.util.ArrayList;
import java.util.List;

/** Counts what a test looked at, and prints each answer that is not the one that is due. */
final class Check {
    /** A way to make one object, always the same. */
    interface Made {
        Chamberwright anew();
    }

    /** A call on an object, which may throw. */
    interface Asked {
        void of(Chamberwright x);
    }

    private final String name;
    private String sentence = "";
    private int lookedAt = 0;
    private int passed = 0;
    private int failed = 0;

    Check(String name) {
        this.name = name;
    }

    /** Begins what is due by one sentence of the document; one under which nothing was looked at is a failure. */
    void sentence(String words) {
        endSentence();
        sentence = words;
        lookedAt = 0;
    }

    private void endSentence() {
        if (!sentence.isEmpty() && lookedAt == 0) {
            failed++;
            System.out.println(name + ": nothing was looked at for: " + sentence);
        }
        sentence = "";
    }

    void same(String what, long got, long due) {
        same(what, Long.toString(got), Long.toString(due));
    }

    void same(String what, String got, String due) {
        lookedAt++;
        if (got.equals(due)) {
            passed++;
        } else {
            failed++;
            String about = sentence.isEmpty() ? "" : "[" + sentence + "] ";
            System.out.println(name + ": " + about + what + " answered " + got + ", due is " + due);
        }
    }

    void yes(String what, boolean got) {
        same(what, Boolean.toString(got), "true");
    }

    void no(String what, boolean got) {
        same(what, Boolean.toString(got), "false");
    }

    /**
     * The call throws just that kind, and behind it the object answers as one does that was made in the same
     * way and never had that call.
     */
    void refused(Made made, String what, Class<? extends RuntimeException> kind, Asked call) {
        Chamberwright x = made.anew();
        same(what + " throws", thrownBy(x, call), kind.getSimpleName());
        same("the state behind the refused " + what, Snapshot.last(x), Snapshot.last(made.anew()));
    }

    static String thrownBy(Chamberwright x, Asked call) {
        try {
            call.of(x);
            return "nothing";
        } catch (RuntimeException e) {
            return e.getClass().getSimpleName();
        }
    }

    void endsWell() {
        endSentence();
        System.out.println(name + ": " + passed + " answers as due, " + failed + " not");
        if (failed > 0 || passed == 0) {
            System.exit(1);
        }
    }

    /** Joins answers so that a whole row of them is looked at in one line of a test. */
    static String row(int... numbers) {
        List<String> texts = new ArrayList<>();
        for (int number : numbers) {
            texts.add(Integer.toString(number));
        }
        return String.join(" ", texts);
    }
}
