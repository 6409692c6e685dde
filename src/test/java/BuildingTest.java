/** Promises 1 to 6: a new object, gate, lead, tune, flip, set. */
public final class BuildingTest {
    public static void main(String[] args) {
        aNewObject();
        gatesAreBuilt();
        gatesAreRefused();
        exitsAreLed();
        leadsAreRefused();
        bellsAreTuned();
        gatesAreFlipped();
        settingsAreChanged();
        Checks.end("BuildingTest");
    }

    private static void aNewObject() {
        MarbleGates x = new MarbleGates();
        int[] counts = {0, 0, 40, 0, 0, 1, 40, 0, 0, 0, 0, 0};
        for (int what = 0; what < counts.length; what++) {
            Checks.due("new: count(" + what + ")", x.count(what), counts[what]);
        }
        for (int bin = 0; bin < 5; bin++) {
            for (int what = 0; what < 3; what++) {
                Checks.due("new: bin(" + bin + ", " + what + ")", x.bin(bin, what), 0);
            }
        }
        Checks.due("new: notes(0)", x.notes(0), 0);
        Checks.due("NONE", MarbleGates.NONE, -1);
        Checks.refusedAsState(x, "new: undo()", () -> x.undo());
        Checks.refusedAsState(x, "new: goBack(0)", () -> x.goBack(0));
        Checks.refusedAsState(x, "new: goBack(1)", () -> x.goBack(1));
    }

    private static void gatesAreBuilt() {
        MarbleGates x = new MarbleGates();
        Checks.due("gate(0)", x.gate(0), 0);
        Checks.due("gate(30)", x.gate(30), 1);
        Checks.due("gates", x.count(1), 2);
        int[] due = {0, 30, 20, 20, 0, 0, 0, 0};
        for (int what = 0; what < due.length; what++) {
            Checks.due("built: gateOf(1, " + what + ")", x.gateOf(1, what), due[what]);
        }
        Checks.due("exits to the bin 0", x.bin(0, 2), 4);
        Checks.due("undo()", x.undo(), 1);
        Checks.due("gates after undo", x.count(1), 1);
        Checks.due("exits to the bin 0 after undo", x.bin(0, 2), 2);
        Checks.due("gate(4) after undo", x.gate(4), 1);
        Checks.due("its pitch", x.gateOf(1, 1), 4);
    }

    private static void gatesAreRefused() {
        MarbleGates x = new MarbleGates();
        Checks.refusedAsArgument(x, "gate(-1)", () -> x.gate(-1));
        Checks.refusedAsArgument(x, "gate(31)", () -> x.gate(31));
        for (int i = 0; i < 12; i++) {
            Checks.due("gate " + i, x.gate(i), i);
        }
        Checks.refusedAsState(x, "gate(5) with 12 gates", () -> x.gate(5));
        Checks.refusedAsArgument(x, "gate(31) with 12 gates", () -> x.gate(31));
        Checks.refusedAsArgument(x, "gate(min)", () -> x.gate(Integer.MIN_VALUE));
    }

    private static void exitsAreLed() {
        MarbleGates x = Checks.gates(1, 2, 3);
        Checks.due("lead(0, 0, 1)", x.lead(0, 0, 1), 20);
        Checks.due("lead(0, 0, 2)", x.lead(0, 0, 2), 1);
        Checks.due("lead(0, 1, 24)", x.lead(0, 1, 24), 20);
        Checks.due("lead(2, 1, 20)", x.lead(2, 1, 20), 20);
        Checks.due("left target", x.gateOf(0, 2), 2);
        Checks.due("right target", x.gateOf(0, 3), 24);
        Checks.due("exits to the bin 0", x.bin(0, 2), 4);
        Checks.due("exits to the bin 4", x.bin(4, 2), 1);
        Checks.due("saved states", x.count(10), 6);
        Checks.due("undo()", x.undo(), 5);
        Checks.due("undo()", x.undo(), 4);
        Checks.due("right target after undo", x.gateOf(0, 3), 20);
    }

    private static void leadsAreRefused() {
        MarbleGates x = Checks.gates(1, 2, 3);
        int[][] noSuch = {{3, 0, 20}, {-1, 0, 20}, {12, 0, 20}, {0, 2, 20}, {0, -1, 20}, {0, 0, 3}, {0, 0, -1},
            {0, 0, 12}, {0, 0, 19}, {0, 0, 25}, {3, 0, 0}, {2, 2, 0}, {20, 0, 21},
            {Integer.MIN_VALUE, 0, 1}, {0, Integer.MAX_VALUE, 1}, {0, 0, Integer.MAX_VALUE}};
        for (int[] a : noSuch) {
            Checks.refusedAsIndex(x, "lead(" + a[0] + ", " + a[1] + ", " + a[2] + ")", () -> x.lead(a[0], a[1], a[2]));
        }
        int[][] notGreater = {{0, 0, 0}, {1, 1, 1}, {1, 0, 0}, {2, 0, 1}, {2, 1, 2}};
        for (int[] a : notGreater) {
            Checks.refusedAsArgument(x, "lead(" + a[0] + ", " + a[1] + ", " + a[2] + ")",
                    () -> x.lead(a[0], a[1], a[2]));
        }
    }

    private static void bellsAreTuned() {
        MarbleGates x = Checks.gates(7);
        Checks.due("tune(0, 30)", x.tune(0, 30), 7);
        Checks.due("tune(0, 0)", x.tune(0, 0), 30);
        Checks.due("pitch", x.gateOf(0, 1), 0);
        Checks.due("saved states", x.count(10), 3);
        Checks.refusedAsIndex(x, "tune(1, 3)", () -> x.tune(1, 3));
        Checks.refusedAsIndex(x, "tune(1, 31)", () -> x.tune(1, 31));
        Checks.refusedAsIndex(x, "tune(-1, 3)", () -> x.tune(-1, 3));
        Checks.refusedAsArgument(x, "tune(0, 31)", () -> x.tune(0, 31));
        Checks.refusedAsArgument(x, "tune(0, -1)", () -> x.tune(0, -1));
        Checks.due("undo()", x.undo(), 2);
        Checks.due("pitch after undo", x.gateOf(0, 1), 30);
    }

    private static void gatesAreFlipped() {
        MarbleGates x = Checks.gates(7, 8);
        Checks.due("flip(1)", x.flip(1), 1);
        Checks.due("side", x.gateOf(1, 0), 1);
        Checks.due("the other gate's side", x.gateOf(0, 0), 0);
        Checks.due("flip(1) again", x.flip(1), 0);
        Checks.due("flips", x.gateOf(1, 7), 2);
        Checks.due("no ball left", x.gateOf(1, 4) + x.gateOf(1, 5), 0);
        Checks.due("no note", x.count(9), 0);
        Checks.refusedAsIndex(x, "flip(2)", () -> x.flip(2));
        Checks.refusedAsIndex(x, "flip(-1)", () -> x.flip(-1));
        Checks.due("undo()", x.undo(), 3);
        Checks.due("side after undo", x.gateOf(1, 0), 1);
        Checks.due("flips after undo", x.gateOf(1, 7), 1);
    }

    private static void settingsAreChanged() {
        MarbleGates x = new MarbleGates();
        Checks.due("set(0, 9)", x.set(0, 9), 1);
        Checks.due("set(0, 1)", x.set(0, 1), 9);
        Checks.due("set(1, 1)", x.set(1, 1), 40);
        Checks.due("set(1, 40)", x.set(1, 40), 1);
        Checks.due("set(1, 10)", x.set(1, 10), 40);
        Checks.due("the gap", x.count(5), 1);
        Checks.due("the level", x.count(6), 10);
        Checks.refusedAsIndex(x, "set(2, 1)", () -> x.set(2, 1));
        Checks.refusedAsIndex(x, "set(-1, 0)", () -> x.set(-1, 0));
        Checks.refusedAsArgument(x, "set(0, 0)", () -> x.set(0, 0));
        Checks.refusedAsArgument(x, "set(0, 10)", () -> x.set(0, 10));
        Checks.refusedAsArgument(x, "set(1, 0)", () -> x.set(1, 0));
        Checks.refusedAsArgument(x, "set(1, 41)", () -> x.set(1, 41));
        Checks.due("undo()", x.undo(), 4);
        Checks.due("the level after undo", x.count(6), 40);
    }
}
