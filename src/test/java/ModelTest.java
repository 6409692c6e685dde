/** Long runs of calls, ordinary and wrong ones mixed, each answered as the model answers it. */
public final class ModelTest {
    /** How often each call is chosen; the dear ones seldom. */
    private static final int[] WEIGHTS = {6, 12, 3, 6, 4, 8, 10, 3, 0, 1, 4, 6, 4, 2, 2, 12, 12, 8, 10, 8, 6, 8, 3, 6,
    5,
        4, 3, 2, 4};
    private static final String SIGNS = "gedtfLRb;0123456789g1;d5;t9;e0L";

    private long seed;
    private final Subject x = new Subject();
    private final Model model = new Model();
    private int calls;

    private ModelTest(int run) {
        seed = run * 7919L + 17;
    }

    public static void main(String[] args) {
        for (int run = 0; run < 400; run++) {
            new ModelTest(run).playOneRun(run);
        }
        Checks.end("ModelTest");
    }

    private int below(int bound) {
        seed = seed * 6364136223846793005L + 1442695040888963407L;
        return (int) ((seed >>> 33) % bound);
    }

    private int from(int least, int greatest) {
        return least + below(greatest - least + 1);
    }

    private void playOneRun(int run) {
        int total = 0;
        for (int weight : WEIGHTS) {
            total += weight;
        }
        while (calls < Subject.CALL_LIMIT) {
            if (below(9) == 0 && calls + 62 < Subject.CALL_LIMIT) {
                type(run);
            }
            int choice = below(total);
            int call = 0;
            while (choice >= WEIGHTS[call]) {
                choice -= WEIGHTS[call];
                call++;
            }
            same(run, call, arguments(call));
        }
    }

    private void type(int run) {
        String text = below(3) == 0 ? noise() : orders();
        same(run, 9, new int[0]);
        for (int i = 0; i < text.length() && calls < Subject.CALL_LIMIT; i++) {
            same(run, 8, new int[] {text.charAt(i)});
        }
        same(run, below(2) == 0 ? 10 : 11, new int[0]);
    }

    private String noise() {
        StringBuilder text = new StringBuilder();
        for (int i = below(12); i >= 0; i--) {
            text.append(below(20) == 0 ? (char) from(33, 126) : SIGNS.charAt(below(SIGNS.length())));
        }
        return text.toString();
    }

    private String orders() {
        StringBuilder text = new StringBuilder();
        for (int i = below(6); i >= 0; i--) {
            text.append(text.length() > 0 ? ";" : "");
            switch (below(5)) {
                case 0 -> text.append('g').append(below(31));
                case 1 -> text.append('e').append(below(12)).append(below(2) == 0 ? 'L' : 'R')
                        .append(below(2) == 0 ? "b" + below(5) : "" + below(12));
                case 2 -> text.append('d').append(from(1, 40));
                case 3 -> text.append('t').append(from(1, 50));
                default -> text.append('f').append(below(12));
            }
        }
        return text.toString();
    }

    private int mostly(int least, int greatest) {
        int kind = below(40);
        return kind == 0 ? least - 1 : kind == 1 ? greatest + 1 : kind == 2 ? from(-2000, 2000)
                : kind == 3 ? (below(2) == 0 ? Integer.MIN_VALUE : Integer.MAX_VALUE) : from(least, greatest);
    }

    /** The model is asked, so that the object itself has no more calls than the document allows. */
    private int asked(int what) {
        return model.call(18, what).intValue();
    }

    private int gate() {
        return mostly(0, Math.max(0, asked(1) - 1));
    }

    private int target(int gate) {
        return below(3) == 0 ? mostly(20, 24) : below(4) == 0 ? gate() : gate >= 0 && gate < 11 ? gate + 1
        + below(2) : 20;
    }

    private int[] arguments(int call) {
        int gate = gate();
        return switch (call) {
            case 0 -> new int[] {mostly(0, 30)};
            case 1 -> new int[] {gate, mostly(0, 1), target(gate)};
            case 2 -> new int[] {gate, mostly(0, 30)};
            case 3 -> new int[] {gate};
            case 4 -> below(2) == 0 ? new int[] {mostly(0, 0), mostly(1, 4)} : new int[] {mostly(1, 1), mostly(1, 40)};
            case 5 -> new int[] {mostly(1, 40)};
            case 6 -> new int[] {below(3) == 0 ? mostly(1, 50) : mostly(1, 5)};
            case 7, 26 -> new int[] {mostly(0, 4)};
            case 8 -> new int[] {mostly(33, 126)};
            case 13, 14 -> new int[] {mostly(0, 1)};
            case 15 -> new int[] {gate, mostly(0, 7)};
            case 16 -> new int[] {below(4) == 0 ? mostly(0, 40) : mostly(0, 3), mostly(0, 4)};
            case 17 -> new int[] {mostly(0, 4), mostly(0, 2)};
            case 18 -> new int[] {mostly(0, 11)};
            case 19 -> new int[] {mostly(0, 62), mostly(0, 2)};
            case 20 -> new int[] {mostly(Math.max(0, asked(0) - 30), asked(0) + 1)};
            case 21 -> new int[] {mostly(0, 6)};
            case 23 -> new int[] {mostly(0, 1000), below(2) == 0 ? gate() : mostly(20, 24), mostly(0, 1)};
            case 24 -> new int[] {mostly(0, 1000), gate};
            case 25 -> new int[] {mostly(0, 999)};
            case 28 -> new int[] {below(2)};
            default -> new int[0];
        };
    }

    private void same(int run, int call, int[] a) {
        calls++;
        String what = "run " + run + ", call " + calls + ": " + Subject.NAMES.get(call) + java.util.Arrays.toString(a);
        Checks.dueText(what, x.outcome(call, a), Checks.outcome(() -> model.call(call, a)));
    }
}
