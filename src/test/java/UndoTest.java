/** Promises 14 to 16: undo, keep, goBack. */
public final class UndoTest {
    public static void main(String[] args) {
        sixStatesAreSaved();
        everyUndoableCallIsUndone();
        otherCallsSaveNothing();
        snapshotsAreTakenAndRestored();
        snapshotsAreRefused();
        snapshotsStandApartFromUndo();
        Checks.end("UndoTest");
    }

    private static void sixStatesAreSaved() {
        MarbleGates x = Checks.gates(0);
        for (int pitch = 1; pitch <= 9; pitch++) {
            x.tune(0, pitch);
            Checks.due("saved after " + pitch, x.count(10), Math.min(pitch + 1, 6));
        }
        for (int left = 5; left >= 0; left--) {
            Checks.due("undo() to " + left, x.undo(), left);
            Checks.due("pitch", x.gateOf(0, 1), left + 3);
        }
        Checks.refusedAsState(x, "undo() of nothing", () -> x.undo());
        x.tune(0, 20);
        x.tune(0, 21);
        Checks.due("undo()", x.undo(), 1);
        Checks.due("pitch", x.gateOf(0, 1), 20);
        Checks.due("undo()", x.undo(), 0);
        Checks.due("pitch", x.gateOf(0, 1), 3);
    }

    private static void undone(MarbleGates x, String what, Checks.Call call) {
        String before = Checks.stateView(x);
        int saved = x.count(10);
        call.answer();
        Checks.due(what + " is saved", x.count(10), Math.min(saved + 1, 6));
        Checks.due("undo() of " + what, x.undo(), Math.min(saved, 5));
        Checks.dueText("the state before " + what, Checks.stateView(x), before);
    }

    private static void everyUndoableCallIsUndone() {
        MarbleGates x = Checks.gates(3, 4);
        x.lead(0, 1, 1);
        x.drop(30);
        x.play(33);
        x.keep(0);
        x.play(7);
        undone(x, "gate", () -> x.gate(3));
        undone(x, "lead", () -> x.lead(0, 0, 22));
        undone(x, "lead to the same", () -> x.lead(0, 1, 1));
        undone(x, "tune", () -> x.tune(1, 9));
        undone(x, "flip", () -> x.flip(0));
        undone(x, "set", () -> x.set(1, 3));
        undone(x, "set to the same", () -> x.set(1, 40));
        undone(x, "drop", () -> x.drop(3));
        x.drop(9);
        undone(x, "play", () -> x.play(5));
        undone(x, "empty", () -> x.empty(0));
        undone(x, "empty of an empty one", () -> x.empty(3));
        undone(x, "goBack", () -> x.goBack(0));
        Checks.type(x, "g1;d1;t9;f0");
        undone(x, "execute", () -> x.execute());
    }

    private static void otherCallsSaveNothing() {
        MarbleGates x = Checks.gates(3);
        x.keep(0);
        x.append('g');
        x.clearBuffer();
        x.firstError();
        x.rolled(100, 0, 0);
        x.rolled(100, 0, 1);
        x.sideAfter(1, 0);
        x.binOf(5);
        x.firstInto(0);
        x.period();
        x.way(true);
        Checks.due("saved states", x.count(10), 1);
        Checks.due("the side stays", x.gateOf(0, 0), 0);
    }

    private static void snapshotsAreTakenAndRestored() {
        MarbleGates x = Checks.gates(3);
        x.drop(5);
        x.play(4);
        Checks.due("keep(0)", x.keep(0), 4);
        String first = Checks.stateView(x);
        x.play(3);
        Checks.due("keep(1)", x.keep(1), 7);
        String second = Checks.stateView(x);
        x.gate(9);
        x.flip(0);
        Checks.due("goBack(0)", x.goBack(0), 4);
        Checks.dueText("the first snapshot", Checks.stateView(x), first);
        Checks.due("goBack(1)", x.goBack(1), 7);
        Checks.dueText("the second snapshot", Checks.stateView(x), second);
        x.tune(0, 1);
        Checks.due("goBack(0) again", x.goBack(0), 4);
        Checks.dueText("it stays in its slot", Checks.stateView(x), first);
        x.play(1);
        Checks.due("keep(0) again", x.keep(0), 5);
        x.play(1);
        Checks.due("the one in the slot is replaced", x.goBack(0), 5);
    }

    private static void snapshotsAreRefused() {
        MarbleGates x = Checks.gates(3);
        Checks.refusedAsArgument(x, "keep(2)", () -> x.keep(2));
        Checks.refusedAsArgument(x, "keep(-1)", () -> x.keep(-1));
        Checks.refusedAsArgument(x, "goBack(2)", () -> x.goBack(2));
        Checks.refusedAsArgument(x, "goBack(-1)", () -> x.goBack(-1));
        Checks.refusedAsState(x, "goBack(0)", () -> x.goBack(0));
        x.keep(1);
        Checks.refusedAsState(x, "goBack(0) of an empty slot", () -> x.goBack(0));
        Checks.due("goBack(1)", x.goBack(1), 0);
    }

    private static void snapshotsStandApartFromUndo() {
        MarbleGates x = new MarbleGates();
        x.gate(3);
        x.keep(0);
        x.undo();
        Checks.due("gates", x.count(1), 0);
        Checks.due("goBack(0) after undo", x.goBack(0), 0);
        Checks.due("gates", x.count(1), 1);
        Checks.type(x, "f0");
        x.keep(1);
        x.clearBuffer();
        x.goBack(1);
        Checks.due("the buffer is no part of it", x.count(11), 0);
        Checks.due("nor are the saved states", x.count(10), 2);
        Checks.due("undo()", x.undo(), 1);
        Checks.due("undo()", x.undo(), 0);
        Checks.due("gates", x.count(1), 0);
        Checks.due("goBack(1) after undo", x.goBack(1), 0);
        Checks.due("gates", x.count(1), 1);
    }
}
