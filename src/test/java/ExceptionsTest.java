/**
 * "Exceptions" in "Terms": each call that can be refused is refused in a run in which all that it could change is there,
 * and changes nothing of it: gates, balls, notes, six saved states, a snapshot and a full buffer.
 */
public final class ExceptionsTest {
    private static final String FULL = "12 * gate(3); lead(0, 0, 5); lead(0, 1, 11); lead(5, 1, 24); tune(5, 9); set(0, 1)"
            + "; drop(40); play(37); keep(0); drop(40); play(4); flip(5); set(1, 30); drop(36); 3 * drop(40)"
            + "; 60 * append(103); count(1) = 12; count(4) = 196; count(10) = 6; count(11) = 60; notes(0) = 60";

    public static void main(String[] args) {
        buildingIsRefused();
        playingIsRefused();
        orderTextsAreRefused();
        undoAndSnapshotsAreRefused();
        queriesAreRefused();
        rollingOutIsRefused();
        Checks.end("ExceptionsTest");
    }

    /** Each call alone, so that none can hide what another has changed. */
    private static void refused(String exception, String... calls) {
        for (String call : calls) {
            Script.holds("A call that throws an exception changes nothing", FULL, call + " ! " + exception);
        }
    }

    private static void buildingIsRefused() {
        refused("argument", "gate(-1)", "gate(31)");
        refused("state", "gate(0)", "gate(30)");
        refused("index", "lead(-1, 0, 20)", "lead(12, 0, 20)", "lead(0, -1, 20)", "lead(0, 2, 20)", "lead(0, 0, -1)",
                "lead(0, 0, 12)", "lead(0, 0, 19)", "lead(0, 0, 25)", "lead(12, 0, 5)", "lead(5, 2, 4)",
                "lead(5, -1, 5)");
        refused("argument", "lead(0, 0, 0)", "lead(5, 0, 5)", "lead(5, 1, 4)", "lead(11, 1, 11)", "lead(11, 0, 0)");
        refused("index", "tune(-1, 3)", "tune(12, 3)", "tune(12, 31)", "tune(-1, -1)");
        refused("argument", "tune(0, -1)", "tune(0, 31)", "tune(11, 31)");
        refused("index", "flip(-1)", "flip(12)");
        refused("index", "set(-1, 3)", "set(2, 3)", "set(2, 0)", "set(-1, 41)");
        refused("argument", "set(0, 0)", "set(0, 10)", "set(1, 0)", "set(1, 41)");
    }

    private static void playingIsRefused() {
        refused("argument", "drop(0)", "drop(41)", "drop(-1)");
        refused("state", "drop(5)", "drop(40)");
        refused("argument", "play(0)", "play(51)", "play(-1)");
        refused("index", "empty(-1)", "empty(5)", "empty(20)");
    }

    private static void orderTextsAreRefused() {
        refused("argument", "append(32)", "append(127)", "append(-1)");
        refused("state", "append(33)", "append(103)", "append(126)");
        refused("argument", "execute()");
        Script.holds("A call that throws an exception changes nothing: execute()", "gate(1); drop(3); play(2); keep(1)",
                "type d1;f0;t5;", "execute() ! argument; append(102) = 10; execute() ! argument; append(48) = 11",
                "execute() = 4");
    }

    private static void undoAndSnapshotsAreRefused() {
        Script.holds("A call that throws an exception changes nothing: undo()",
                "play(3); keep(0); gate(1); undo(); undo()",
                "type g1;d5", "undo() ! state; goBack(0) = 3; undo() = 0; undo() ! state; execute() = 2");
        refused("argument", "keep(-1)", "keep(2)", "goBack(-1)", "goBack(2)");
        refused("state", "goBack(1)");
    }

    private static void queriesAreRefused() {
        refused("index", "gateOf(-1, 0)", "gateOf(12, 0)", "gateOf(12, 8)", "gateOf(-1, -1)");
        refused("argument", "gateOf(0, -1)", "gateOf(11, 8)");
        refused("argument", "ball(-1, 0)", "ball(0, -1)", "ball(0, 5)", "ball(40, 5)");
        refused("index", "bin(-1, 0)", "bin(5, 0)", "bin(5, 3)", "bin(-1, -1)");
        refused("argument", "bin(0, -1)", "bin(4, 3)");
        refused("argument", "count(-1)", "count(12)");
        refused("argument", "note(-1, 0)", "note(0, -1)", "note(0, 3)", "note(60, 3)");
        refused("argument", "chord(-1)", "notes(-1)", "notes(7)");
    }

    private static void rollingOutIsRefused() {
        refused("index", "rolled(1, -1, 0)", "rolled(1, 12, 0)", "rolled(1, 19, 1)", "rolled(1, 25, 1)",
                "rolled(1001, 12, 2)", "rolled(-1, 25, 0)", "rolled(1, -1, 2)");
        refused("argument", "rolled(-1, 0, 0)", "rolled(1001, 24, 1)", "rolled(1, 11, 2)", "rolled(1, 20, -1)");
        refused("index", "sideAfter(1, -1)", "sideAfter(1, 12)", "sideAfter(1001, 12)", "sideAfter(-1, -1)");
        refused("argument", "sideAfter(-1, 0)", "sideAfter(1001, 11)");
        refused("argument", "binOf(-1)", "binOf(1000)");
        refused("index", "firstInto(-1)", "firstInto(5)");
    }
}
