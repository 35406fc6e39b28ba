import java.util.Random;

/** Promises 1 to 26: long runs of calls, each answer beside that of another house, also each exception. */
public final class ModelTest {
    private static final int RUNS = 160;
    private static final int CALLS = 512;
    private static final Check CHECK = new Check("ModelTest");

    private final Random random;
    private final Chamberwright x = new Chamberwright();
    private final Model model = new Model();
    private final int flavour;

    private ModelTest(int run) {
        random = new Random(run);
        flavour = run % 5;
    }

    public static void main(String[] args) {
        for (int run = 0; run < RUNS; run++) {
            new ModelTest(run).go(run);
        }
        CHECK.endsWell();
    }

    private void go(int run) {
        for (int call = 0; call < CALLS; call++) {
            int which = call < run % 13 ? 0 : random.nextInt(60);
            if (which < 2) {
                line(run);
            } else if (which == 2) {
                ask(run, 1, index(9), 0, 0);
            } else {
                askAny(run, which);
            }
        }
    }

    private void line(int run) {
        int far = new int[] {1, 2, 3, 9, 10}[flavour];
        int a = random.nextInt(2 * far + 1) - far;
        int b = random.nextInt(2 * far + 1) - far;
        int c = random.nextInt(3) == 0 ? 0 : random.nextInt(2 * far + 1) - far;
        ask(run, 0, a, b, random.nextInt(40) == 0 ? wild() : c);
    }

    private void askAny(int run, int which) {
        int rooms = model.rooms();
        int meets = model.meets();
        switch (which % 24) {
            case 0 -> ask(run, 3, index(meets), index(4), 0);
            case 1 -> ask(run, 4, index(3), 0, 0);
            case 2 -> ask(run, 5, index(3), 0, 0);
            case 3 -> ask(run, 6, random.nextInt(34), 0, 0);
            case 4 -> ask(run, 9, index(rooms), index(4), 0);
            case 5 -> ask(run, 10, random.nextInt(9) == 0 ? wild() : random.nextInt(513), 0, 0);
            case 6 -> ask(run, 11, index(rooms), index(6), 0);
            case 7 -> ask(run, 12, index(rooms), index(rooms), 0);
            case 8, 9 -> ask(run, 13, index(rooms), index(rooms), index(8));
            case 10 -> ask(run, 14, index(rooms), index(meets), 0);
            case 11, 12 -> ask(run, 15, index(rooms), goal(), goal());
            case 13, 14 -> ask(run, 16, index(9), index(9), 0);
            case 15 -> ask(run, 19, index(36), 0, 0);
            case 16, 17 -> ask(run, 20, index(6), index(6), 0);
            case 18 -> ask(run, 21, index(7), 0, 0);
            case 19 -> ask(run, 22, index(7), 0, 0);
            default -> ask(run, new int[] {2, 7, 8, 17, 18, 23, 24}[random.nextInt(7)], 0, 0, 0);
        }
    }

    private int goal() {
        return random.nextInt(30) == 0 ? wild() : random.nextInt(19) - 9;
    }

    /** Mostly one that is there, at times one just beside, at times one far out. */
    private int index(int count) {
        int kind = random.nextInt(40);
        if (kind == 0) {
            return wild();
        }
        return kind == 1 ? count : kind == 2 ? -1 : random.nextInt(Math.max(1, count));
    }

    private int wild() {
        int[] all = {Integer.MAX_VALUE, Integer.MIN_VALUE, 512, 1 << 16, -10, 10, -512, Integer.MIN_VALUE + 9};
        return all[random.nextInt(all.length)];
    }

    private void ask(int run, int call, int p, int q, int r) {
        String got = Calls.program(x, call, p, q, r);
        String due = Calls.model(model, call, p, q, r);
        CHECK.same("run " + run + ", " + Calls.name(call, p, q, r), got, due);
    }
}
