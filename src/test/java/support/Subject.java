import java.util.List;

/** An object under test. It counts its calls, since of what comes after the 512th the document promises nothing. */
final class Subject {
    /** The methods in the order of the document's face; their places are the numbers of the calls. */
    static final List<String> NAMES = List.of("gate", "lead", "tune", "flip", "set", "drop", "play", "empty", "append",
            "clearBuffer", "firstError", "execute", "undo", "keep", "goBack", "gateOf", "ball", "bin", "count", "note",
            "chord", "notes", "meanPitch", "rolled", "sideAfter", "binOf", "firstInto", "period", "way");
    static final int CALL_LIMIT = 512;

    private final MarbleGates x = new MarbleGates();
    private int calls;

    /** The answer keeps its type: a chord as a float would lose bits. */
    Number call(int number, int... a) {
        calls++;
        if (calls > CALL_LIMIT) {
            throw new AssertionError("a test uses an object for more than 512 calls");
        }
        return switch (number) {
            case 0 -> x.gate(a[0]);
            case 1 -> x.lead(a[0], a[1], a[2]);
            case 2 -> x.tune(a[0], a[1]);
            case 3 -> x.flip(a[0]);
            case 4 -> x.set(a[0], a[1]);
            case 5 -> x.drop(a[0]);
            case 6 -> x.play(a[0]);
            case 7 -> x.empty(a[0]);
            case 8 -> x.append(a[0]);
            case 9 -> x.clearBuffer();
            case 10 -> x.firstError();
            case 11 -> x.execute();
            case 12 -> x.undo();
            case 13 -> x.keep(a[0]);
            case 14 -> x.goBack(a[0]);
            case 15 -> x.gateOf(a[0], a[1]);
            case 16 -> x.ball(a[0], a[1]);
            case 17 -> x.bin(a[0], a[1]);
            case 18 -> x.count(a[0]);
            case 19 -> x.note(a[0], a[1]);
            case 20 -> x.chord(a[0]);
            case 21 -> x.notes(a[0]);
            case 22 -> x.meanPitch();
            case 23 -> x.rolled(a[0], a[1], a[2]);
            case 24 -> x.sideAfter(a[0], a[1]);
            case 25 -> x.binOf(a[0]);
            case 26 -> x.firstInto(a[0]);
            case 27 -> x.period();
            case 28 -> x.way(a[0] == 1);
            default -> throw new AssertionError("there is no call " + number);
        };
    }

    Number call(String name, int... a) {
        return call(NAMES.indexOf(name), a);
    }

    /** The answer, or the name of the exception. */
    String outcome(int number, int... a) {
        return Checks.outcome(() -> call(number, a));
    }
}
