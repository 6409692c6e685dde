/** Promises 14 to 16: undo, keep, goBack; and "Undo and snapshots" in "Terms". */
public final class UndoTest {
    public static void main(String[] args) {
        theStateIsEverythingElse();
        statesAreSaved();
        sixStatesAreSaved();
        statesAreRestored();
        snapshotsAreTaken();
        snapshotsAreRestored();
        Checks.end("UndoTest");
    }

    private static void theStateIsEverythingElse() {
        String sentence = "The state consists of everything except the buffer, the saved states and the snapshots.";
        Script.holds(sentence + " The buffer", "gate(1); keep(0)", "type f0",
                "undo() = 0; count(11) = 2; goBack(0) = 0",
                "count(11) = 2; clearBuffer() = 2; undo() = 0; count(11) = 0; goBack(0); count(11) = 0; firstError() = 0");
        Script.holds(sentence + " The saved states", "gate(1); keep(0); tune(0, 2); tune(0, 3); goBack(0) = 0",
                "count(10) = 4; gateOf(0, 1) = 1; undo() = 3; gateOf(0, 1) = 3; undo() = 2; gateOf(0, 1) = 2");
        Script.holds(sentence + " The snapshots", "gate(1); keep(0) = 0; undo() = 0; count(1) = 0; goBack(0) = 0",
                "count(1) = 1; play(3); keep(1) = 3; goBack(0) = 0; goBack(1) = 3; undo() = 3; count(0) = 0");
        String rich = "3 * gate(5); lead(0, 0, 1); lead(0, 1, 2); lead(1, 0, 2); lead(1, 1, 21); lead(2, 1, 24)"
                + "; set(0, 2); set(1, 3); drop(40); drop(40); flip(1); play(50); tune(2, 9); play(43)";
        Script.isUndoable("3 * gate(5); lead(0, 0, 1); lead(1, 0, 2); drop(1); play(2)", "play(1)");
        String twoInTheRun = "3 * gate(5); lead(0, 0, 1); lead(0, 1, 1); lead(1, 0, 2); drop(2); play(3)";
        Script.isUndoable(twoInTheRun, "play(1)");
        Script.isUndoable(twoInTheRun, "play(50)");
        Script.isUndoable("keep(0)", twoInTheRun, "goBack(0)");
        Script.isUndoable(rich, "gate(30)");
        Script.isUndoable(rich, "lead(0, 0, 2)");
        Script.isUndoable(rich, "tune(0, 0)");
        Script.isUndoable(rich, "flip(2)");
        Script.isUndoable(rich, "set(0, 9)");
        Script.isUndoable(rich, "set(1, 40)");
        Script.isUndoable(rich, "drop(40)");
        Script.isUndoable(rich, "play(50)");
        Script.isUndoable(rich, "empty(1)");
        Script.isUndoable("keep(1)", rich, "goBack(1)");
        Script.isUndoable(rich, "type g1;e0L3;f3;d9;t50", "execute()");
    }

    private static void statesAreSaved() {
        Script.holds("saves the state from before the call if it does not throw an exception, even if nothing changes",
                "gate(1); count(10) = 1; tune(0, 1) = 1; count(10) = 2; lead(0, 0, 20) = 20; count(10) = 3",
                "set(0, 1) = 1; count(10) = 4; empty(4) = 0; count(10) = 5; tune(0, 31) ! argument; flip(1) ! index",
                "count(10) = 5");
        Script.holds("even if nothing changes: no order can be executed, and a snapshot is as the state", "keep(0)",
                "type f0", "execute() = 0; count(10) = 1; goBack(0) = 0; count(10) = 2; undo() = 1; undo() = 0");
        Script.changeNothing("A call that is not marked saves nothing", "gate(1); drop(3); play(3); keep(0); keep(1)",
                "firstError()", "rolled(9, 0, 0)", "rolled(9, 0, 1)", "keep(0) = 3", "keep(1) = 3");
        Script.holds("A call that is not marked saves nothing",
                "gate(1); keep(0); append(103); clearBuffer(); count(10) = 1; undo() = 0; count(10) = 0");
    }

    private static void sixStatesAreSaved() {
        String sentence = "At most 6 states are saved; when one more is saved, the oldest one is dropped.";
        Script.holds(sentence + " Six", "gate(0); tune(0, 1); tune(0, 2); tune(0, 3); tune(0, 4); count(10) = 5",
                "tune(0, 5); count(10) = 6; undo() = 5; gateOf(0, 1) = 4; undo() = 4; gateOf(0, 1) = 3; undo() = 3",
                "gateOf(0, 1) = 2; undo() = 2; gateOf(0, 1) = 1; undo() = 1; gateOf(0, 1) = 0; undo() = 0; count(1) = 0",
                "undo() ! state");
        Script.holds(sentence + " One more", "gate(0); tune(0, 1); tune(0, 2); tune(0, 3); tune(0, 4); tune(0, 5)",
                "tune(0, 6); count(10) = 6; undo() = 5; gateOf(0, 1) = 5; undo() = 4; gateOf(0, 1) = 4; undo() = 3",
                "gateOf(0, 1) = 3; undo() = 2; gateOf(0, 1) = 2; undo() = 1; gateOf(0, 1) = 1; undo() = 0",
                "gateOf(0, 1) = 0; undo() ! state; count(1) = 1");
        Script.holds(sentence + " Twice as many and one more",
                "gate(0); tune(0, 1); tune(0, 2); tune(0, 3); tune(0, 4)",
                "tune(0, 5); tune(0, 6); tune(0, 7); tune(0, 8); tune(0, 9); tune(0, 10); tune(0, 11); tune(0, 12)",
                "count(10) = 6; undo() = 5; gateOf(0, 1) = 11; 4 * undo(); gateOf(0, 1) = 7; undo() = 0",
                "gateOf(0, 1) = 6; undo() ! state");
        Script.holds(sentence + " Also after undo",
                "gate(0); tune(0, 1); tune(0, 2); tune(0, 3); tune(0, 4); tune(0, 5)",
                "tune(0, 6); tune(0, 7); undo() = 5; undo() = 4; gateOf(0, 1) = 5; tune(0, 8) = 5; tune(0, 9) = 8",
                "count(10) = 6; tune(0, 10) = 9; count(10) = 6; undo() = 5; gateOf(0, 1) = 9; undo() = 4",
                "gateOf(0, 1) = 8; undo() = 3; gateOf(0, 1) = 5; undo() = 2; gateOf(0, 1) = 4; undo() = 1",
                "gateOf(0, 1) = 3; undo() = 0; gateOf(0, 1) = 2; undo() ! state");
        Script.holds(sentence + " goBack and execute save one each", "gate(0); keep(0); 4 * tune(0, 1); count(10) = 5",
                "goBack(0); count(10) = 6; goBack(0); count(10) = 6", "type f0;f0;t3", "execute() = 3; count(10) = 6");
    }

    private static void statesAreRestored() {
        Script.holds("14: Restores the state that was saved last, and removes it. Returns the number that are left.",
                "gate(1); gate(2); drop(3); undo() = 2; count(4) = 0; count(10) = 2; undo() = 1; count(1) = 1; gate(9) = 1",
                "count(10) = 2; undo() = 1; count(1) = 1; undo() = 0; count(1) = 0; count(10) = 0");
        String none = "14: Throws `IllegalStateException` if no state is saved";
        Script.holds(none, "undo() ! state; gate(1); undo() = 0; undo() ! state; count(1) = 0");
        Script.holds(none + ", also with a snapshot and a buffer", "keep(0); keep(1)", "type g1", "undo() ! state");
    }

    private static void snapshotsAreTaken() {
        Script.holds("15: Takes a snapshot of the state. Returns the number of the beat.",
                "keep(0) = 0; play(50); keep(1) = 50; play(1); keep(0) = 51; count(10) = 2; goBack(0) = 51; goBack(1) = 50");
        Script.holds("15: which replaces the one in the slot",
                "gate(1); keep(0) = 0; play(4); keep(0) = 4; play(5); goBack(0) = 4; count(0) = 4");
        Script.holds("15: `slot`: 0 or 1. Throws `IllegalArgumentException` if there is no such slot",
                "gate(1); keep(-1) ! argument; keep(2) ! argument; keep(min) ! argument; keep(max) ! argument",
                "keep(0) = 0; keep(1) = 0");
    }

    private static void snapshotsAreRestored() {
        Script.holds("16: Restores a snapshot, which stays in its slot. Returns the number of the beat after the call.",
                "gate(1); drop(5); play(4); keep(0) = 4; play(3); keep(1) = 7; gate(9); flip(0); goBack(0) = 4",
                "count(0) = 4; count(1) = 1; count(7) = 4; goBack(1) = 7; count(7) = 5; count(1) = 1; goBack(0) = 4",
                "count(7) = 4; tune(0, 2); goBack(0) = 4; gateOf(0, 1) = 1; undo(); gateOf(0, 1) = 2");
        Script.holds("16: `slot`: 0 or 1. Throws `IllegalArgumentException` if there is no such slot",
                "gate(1); keep(0); keep(1); goBack(-1) ! argument; goBack(2) ! argument; goBack(min) ! argument",
                "goBack(max) ! argument; goBack(0) = 0; goBack(1) = 0");
        Script.holds("16: Throws `IllegalStateException` if the slot is empty. There are two snapshot slots, which are empty"
                + " at first.", "gate(1); goBack(0) ! state; goBack(1) ! state; keep(1) = 0; goBack(0) ! state",
                "goBack(1) = 0; keep(0) = 0; goBack(0) = 0");
        Script.holds("16: the other slot stays empty", "gate(1); keep(0); goBack(1) ! state; goBack(0) = 0");
        Script.holds("16: the one that its throws clause lists first is thrown",
                "goBack(-1) ! argument; goBack(2) ! argument");
        Script.isUndoable("gate(1); keep(1); drop(9); play(7)", "goBack(1)");
    }
}
