/** Promises 1 to 6: a new object, gate, lead, tune, flip, set. */
public final class BuildingTest {
    public static void main(String[] args) {
        aNewObject();
        gatesAreBuilt();
        exitsAreLed();
        leadsAreRefused();
        bellsAreTuned();
        gatesAreFlipped();
        settingsAreChanged();
        Checks.end("BuildingTest");
    }

    private static void aNewObject() {
        String sentence = "1: Creates a run without gates, with all balls in the stock.";
        Script.holds(sentence, "count(0) = 0; count(1) = 0; count(2) = 40; count(3) = 0; count(4) = 0; count(5) = 1",
                "count(6) = 40; count(7) = 0; count(8) = 0; count(9) = 0; count(10) = 0; count(11) = 0");
        Script.holds(sentence,
                "gateOf(0, 0) ! index; ball(0, 0) = NONE; note(0, 0) = NONE; notes(0) = 0; undo() ! state",
                "goBack(0) ! state; goBack(1) ! state; execute() ! argument; firstError() = 0; clearBuffer() = 0");
        for (int bin = 0; bin < 5; bin++) {
            Script.holds(sentence, "bin(" + bin + ", 0) = 0; bin(" + bin + ", 1) = 0; bin(" + bin + ", 2) = 0");
        }
        Checks.due("NONE = -1", MarbleGates.NONE, -1);
    }

    private static void gatesAreBuilt() {
        Script.holds("2: Builds a gate.", "gate(7); gate(8) = 1; gateOf(1, 0) = 0; gateOf(1, 1) = 8; gateOf(1, 2) = 20",
                "gateOf(1, 3) = 20; gateOf(1, 4) = 0; gateOf(1, 5) = 0; gateOf(1, 6) = 0; gateOf(1, 7) = 0; count(1) = 2");
        Script.holds("2: `pitch`: 0 to 30",
                "gate(0) = 0; gate(30) = 1; gateOf(0, 1) = 0; gateOf(1, 1) = 30; count(1) = 2");
        Script.holds("2: Throws `IllegalArgumentException` if pitch is out of range",
                "gate(-1) ! argument; gate(31) ! argument; gate(min) ! argument; gate(max) ! argument; count(1) = 0");
        Script.holds("2: Throws `IllegalStateException` if there are 12 gates",
                "11 * gate(3); gate(4) = 11; gate(0) ! state; gate(30) ! state; undo(); gate(5) = 11; gate(5) ! state");
        Script.holds("2: the one that its throws clause lists first is thrown",
                "12 * gate(3); gate(-1) ! argument; gate(31) ! argument");
        Script.isUndoable("gate(3)");
        Script.isUndoable("11 * gate(1); drop(3); play(9)", "gate(3)");
    }

    private static void exitsAreLed() {
        Script.holds("3: Leads an exit of a gate to a target. Returns the previous target.",
                "3 * gate(1); lead(0, 0, 1) = 20; lead(0, 0, 2) = 1; lead(0, 0, 24) = 2; lead(0, 0, 24) = 24",
                "lead(0, 1, 1) = 20; lead(2, 1, 22) = 20; gateOf(0, 2) = 24; gateOf(0, 3) = 1; gateOf(1, 2) = 20",
                "gateOf(1, 3) = 20; gateOf(2, 2) = 20; gateOf(2, 3) = 22");
        Script.holds("3: `target`: the number of a gate that is greater than gate, or 20 to 24",
                "12 * gate(1); lead(10, 0, 11) = 20; lead(0, 1, 1) = 20; lead(0, 0, 11) = 20; lead(11, 0, 20) = 20",
                "lead(11, 1, 24) = 20; gateOf(10, 2) = 11; gateOf(0, 3) = 1; gateOf(0, 2) = 11; gateOf(11, 3) = 24");
        Script.isUndoable("2 * gate(1)", "lead(0, 1, 1)");
        Script.isUndoable("2 * gate(1); lead(0, 1, 1)", "lead(0, 1, 1)");
        Script.isUndoable("12 * gate(1); drop(3); play(9)", "lead(10, 0, 11)");
    }

    private static void leadsAreRefused() {
        String noSuch = "3: Throws `IndexOutOfBoundsException` if there is no such gate, exit or target";
        Script.holds(noSuch, "lead(0, 0, 20) ! index; lead(0, 0, 0) ! index");
        Script.holds(noSuch + ": gate", "3 * gate(1); lead(-1, 0, 20) ! index; lead(3, 0, 20) ! index",
                "lead(20, 0, 21) ! index; lead(min, 0, 20) ! index; lead(max, 0, 20) ! index; lead(2, 0, 20) = 20");
        Script.holds(noSuch + ": exit", "3 * gate(1); lead(0, -1, 20) ! index; lead(0, 2, 20) ! index",
                "lead(1, -1, 20) ! index; lead(0, min, 20) ! index; lead(0, max, 20) ! index; lead(0, 1, 20) = 20");
        Script.holds(noSuch + ": target", "3 * gate(1); lead(0, 0, -1) ! index; lead(0, 0, 3) ! index",
                "lead(0, 0, 11) ! index; lead(0, 0, 12) ! index; lead(0, 0, 19) ! index; lead(0, 0, 25) ! index",
                "lead(0, 0, min) ! index; lead(0, 0, max) ! index; lead(0, 0, 2) = 20");
        Script.holds("3: Throws `IllegalArgumentException` if target is a gate that is not greater than gate",
                "3 * gate(1); lead(0, 0, 0) ! argument; lead(0, 1, 0) ! argument; lead(1, 0, 0) ! argument",
                "lead(1, 1, 1) ! argument; lead(2, 0, 1) ! argument; lead(2, 1, 2) ! argument; lead(1, 1, 2) = 20");
        Script.holds("3: the one that its throws clause lists first is thrown",
                "3 * gate(1); lead(3, 0, 2) ! index; lead(3, 0, 0) ! index; lead(12, 0, 1) ! index; lead(1, 2, 1) ! index",
                "lead(1, -1, 0) ! index; lead(2, 2, 0) ! index; lead(-1, 0, -1) ! index; lead(3, 0, 3) ! index");
    }

    private static void bellsAreTuned() {
        Script.holds("4: Changes the pitch of a bell. Returns the previous pitch.",
                "gate(7); gate(8); tune(1, 3) = 8; tune(1, 3) = 3; tune(0, 4) = 7; gateOf(0, 1) = 4; gateOf(1, 1) = 3");
        Script.holds("4: `pitch`: 0 to 30", "gate(7); tune(0, 0) = 7; tune(0, 30) = 0; gateOf(0, 1) = 30");
        Script.holds("4: Throws `IndexOutOfBoundsException` if there is no such gate",
                "tune(0, 3) ! index; gate(7); tune(1, 3) ! index; tune(-1, 3) ! index; tune(min, 3) ! index",
                "tune(max, 3) ! index; tune(0, 3) = 7; 11 * gate(5); tune(12, 3) ! index; tune(11, 3) = 5");
        Script.holds("4: Throws `IllegalArgumentException` if pitch is out of range",
                "gate(7); tune(0, -1) ! argument; tune(0, 31) ! argument; tune(0, min) ! argument",
                "tune(0, max) ! argument; gateOf(0, 1) = 7");
        Script.holds("4: the one that its throws clause lists first is thrown",
                "tune(0, 31) ! index; gate(7); tune(1, 31) ! index; tune(-1, -1) ! index");
        Script.isUndoable("gate(7)", "tune(0, 8)");
        Script.isUndoable("gate(7)", "tune(0, 7)");
    }

    private static void gatesAreFlipped() {
        Script.holds("5: Makes a gate stand to the other side. Returns the side to which it stands then, 0 or 1.",
                "2 * gate(7); flip(1) = 1; gateOf(1, 0) = 1; gateOf(0, 0) = 0; flip(1) = 0; gateOf(1, 0) = 0; flip(1) = 1",
                "gateOf(1, 7) = 3; gateOf(0, 7) = 0; flip(0) = 1; gateOf(0, 7) = 1");
        Script.holds("5: (no ball passes it)",
                "gate(7); drop(1); play(1); flip(0) = 1; ball(0, 0) = 0; ball(0, 2) = 0; count(3) = 1; count(9) = 0",
                "gateOf(0, 4) = 0; gateOf(0, 5) = 0; count(0) = 1; play(1); gateOf(0, 4) = 0; gateOf(0, 5) = 1");
        Script.holds("5: Throws `IndexOutOfBoundsException` if there is no such gate",
                "flip(0) ! index; gate(7); flip(1) ! index; flip(-1) ! index; flip(min) ! index; flip(max) ! index",
                "flip(0) = 1; 11 * gate(7); flip(12) ! index; flip(11) = 1");
        Script.isUndoable("gate(7)", "flip(0)");
        Script.isUndoable("gate(7); flip(0); drop(3); play(4)", "flip(0)");
    }

    private static void settingsAreChanged() {
        Script.holds("6: Changes a setting. Returns the previous value.",
                "set(0, 5) = 1; set(1, 17) = 40; set(0, 5) = 5; set(1, 18) = 17; count(5) = 5; count(6) = 18");
        Script.holds("6: `setting`: 0 or 1. Throws `IndexOutOfBoundsException` if there is no such setting",
                "set(-1, 1) ! index; set(2, 1) ! index; set(min, 1) ! index; set(max, 1) ! index; set(0, 1) = 1",
                "set(1, 1) = 40");
        String range = "6: Throws `IllegalArgumentException` if value is out of range";
        Script.holds(range + ": the gap", "set(0, 1) = 1; set(0, 9) = 1; set(0, 0) ! argument; set(0, 10) ! argument",
                "set(0, -1) ! argument; set(0, 40) ! argument; set(0, min) ! argument; set(0, max) ! argument");
        Script.holds(range + ": the level", "set(1, 1) = 40; set(1, 40) = 1; set(1, 10) = 40; set(1, 0) ! argument",
                "set(1, 41) ! argument; set(1, -1) ! argument; set(1, min) ! argument; set(1, max) ! argument");
        Script.holds("6: the one that its throws clause lists first is thrown",
                "set(2, 0) ! index; set(-1, 41) ! index; set(2, 41) ! index");
        Script.isUndoable("set(0, 9)");
        Script.isUndoable("set(1, 39)");
        Script.isUndoable("gate(1); drop(3); play(4)", "set(1, 40)");
    }
}
