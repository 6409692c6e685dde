/** Promises 25 to 30: rolled, sideAfter, binOf, firstInto, period, way. */
public final class RollingTest {
    public static void main(String[] args) {
        withoutGates();
        ballsAreRolledInBothWays();
        rolledIsRefused();
        sidesAreForetold();
        binsAreForetold();
        theFirstBallIsFound();
        thePeriodIsFound();
        theWaysAreMeasured();
        onlyTheStandingGatesMatter();
        Checks.end("RollingTest");
    }

    private static void withoutGates() {
        MarbleGates x = new MarbleGates();
        for (int target = 20; target < 25; target++) {
            int bin = target;
            Checks.due("without gates: rolled(9, " + bin + ", 0)", x.rolled(9, bin, 0), 0);
            Checks.due("without gates: rolled(9, " + bin + ", 1)", x.rolled(9, bin, 1), 0);
            Checks.due("without gates: firstInto", x.firstInto(bin - 20), MarbleGates.NONE);
        }
        Checks.due("without gates: binOf(0)", x.binOf(0), MarbleGates.NONE);
        Checks.due("without gates: period()", x.period(), MarbleGates.NONE);
        Checks.due("without gates: way(true)", x.way(true), 0);
        Checks.due("without gates: way(false)", x.way(false), 0);
        Checks.refusedAsIndex(x, "without gates: rolled(0, 0, 0)", () -> x.rolled(0, 0, 0));
        Checks.refusedAsIndex(x, "without gates: sideAfter(0, 0)", () -> x.sideAfter(0, 0));
        Checks.refusedAsArgument(x, "without gates: binOf(1000)", () -> x.binOf(1000));
        Checks.refusedAsArgument(x, "without gates: rolled(1001, 20, 0)", () -> x.rolled(1001, 20, 0));
    }

    /** The gate 0 lets out to the gates 1 and 2, the gate 1 to the bin 1 and the gate 2, that to the bins 2 and 3. */
    private static MarbleGates threeGates() {
        MarbleGates x = Checks.gates(1, 2, 3);
        x.lead(0, 0, 1);
        x.lead(0, 1, 2);
        x.lead(1, 0, 21);
        x.lead(1, 1, 2);
        x.lead(2, 0, 22);
        x.lead(2, 1, 23);
        return x;
    }

    private static MarbleGates chain(int size) {
        MarbleGates x = new MarbleGates();
        for (int gate = 0; gate < size; gate++) {
            x.gate(gate);
        }
        for (int gate = 0; gate + 1 < size; gate++) {
            x.lead(gate, 0, gate + 1);
        }
        return x;
    }

    private static void dueRolled(MarbleGates x, int count, int target, int due) {
        Checks.due("rolled(" + count + ", " + target + ", 0)", x.rolled(count, target, 0), due);
        Checks.due("rolled(" + count + ", " + target + ", 1)", x.rolled(count, target, 1), due);
    }

    private static void ballsAreRolledInBothWays() {
        MarbleGates x = threeGates();
        dueRolled(x, 0, 0, 0);
        dueRolled(x, 0, 21, 0);
        dueRolled(x, 1, 21, 1);
        dueRolled(x, 7, 0, 7);
        dueRolled(x, 7, 1, 4);
        dueRolled(x, 7, 2, 5);
        dueRolled(x, 7, 20, 0);
        dueRolled(x, 7, 21, 2);
        dueRolled(x, 7, 22, 3);
        dueRolled(x, 7, 23, 2);
        dueRolled(x, 7, 24, 0);
        dueRolled(x, 1000, 1, 500);
        dueRolled(x, 1000, 2, 750);
        dueRolled(x, 1000, 22, 375);
        x.flip(0);
        dueRolled(x, 7, 1, 3);
        dueRolled(x, 7, 2, 5);
        x.flip(2);
        dueRolled(x, 7, 22, 2);
        dueRolled(x, 7, 23, 3);
        MarbleGates unreached = Checks.gates(1, 2);
        dueRolled(unreached, 10, 1, 0);
        dueRolled(unreached, 10, 20, 10);
    }

    private static void rolledIsRefused() {
        MarbleGates x = threeGates();
        int[] noTargets = {-1, 3, 11, 12, 19, 25, Integer.MIN_VALUE, Integer.MAX_VALUE};
        for (int target : noTargets) {
            Checks.refusedAsIndex(x, "rolled(1, " + target + ", 0)", () -> x.rolled(1, target, 0));
            Checks.refusedAsIndex(x, "rolled(1001, " + target + ", 2)", () -> x.rolled(1001, target, 2));
        }
        Checks.refusedAsArgument(x, "rolled(-1, 0, 0)", () -> x.rolled(-1, 0, 0));
        Checks.refusedAsArgument(x, "rolled(1001, 0, 1)", () -> x.rolled(1001, 0, 1));
        Checks.refusedAsArgument(x, "rolled(1, 0, 2)", () -> x.rolled(1, 0, 2));
        Checks.refusedAsArgument(x, "rolled(1, 20, -1)", () -> x.rolled(1, 20, -1));
    }

    private static void sidesAreForetold() {
        MarbleGates x = threeGates();
        int[][] due = {{0, 0, 0}, {1, 1, 0}, {0, 1, 1}, {1, 0, 0}, {0, 0, 1}};
        for (int count = 0; count < due.length; count++) {
            for (int gate = 0; gate < 3; gate++) {
                Checks.due("sideAfter(" + count + ", " + gate + ")", x.sideAfter(count, gate), due[count][gate]);
            }
        }
        Checks.due("sideAfter(1000, 2)", x.sideAfter(1000, 2), 0);
        x.flip(1);
        Checks.due("sideAfter(0, 1) after flip(1)", x.sideAfter(0, 1), 1);
        Checks.due("sideAfter(1, 1) after flip(1)", x.sideAfter(1, 1), 0);
        Checks.refusedAsIndex(x, "sideAfter(1, 3)", () -> x.sideAfter(1, 3));
        Checks.refusedAsIndex(x, "sideAfter(-1, 3)", () -> x.sideAfter(-1, 3));
        Checks.refusedAsIndex(x, "sideAfter(1, -1)", () -> x.sideAfter(1, -1));
        Checks.refusedAsIndex(x, "sideAfter(1, 20)", () -> x.sideAfter(1, 20));
        Checks.refusedAsArgument(x, "sideAfter(-1, 0)", () -> x.sideAfter(-1, 0));
        Checks.refusedAsArgument(x, "sideAfter(1001, 0)", () -> x.sideAfter(1001, 0));
    }

    private static void binsAreForetold() {
        MarbleGates x = threeGates();
        int[] due = {1, 2, 3, 2, 1, 3, 2, 3};
        for (int index = 0; index < due.length; index++) {
            Checks.due("binOf(" + index + ")", x.binOf(index), due[index]);
        }
        Checks.due("binOf(999)", x.binOf(999), due[999 % 8]);
        Checks.refusedAsArgument(x, "binOf(-1)", () -> x.binOf(-1));
        Checks.refusedAsArgument(x, "binOf(1000)", () -> x.binOf(1000));
    }

    private static void theFirstBallIsFound() {
        MarbleGates x = threeGates();
        int[] due = {MarbleGates.NONE, 0, 1, 2, MarbleGates.NONE};
        for (int bin = 0; bin < 5; bin++) {
            Checks.due("firstInto(" + bin + ")", x.firstInto(bin), due[bin]);
        }
        MarbleGates last = chain(12);
        last.lead(11, 0, 23);
        last.lead(11, 1, 24);
        Checks.due("through twelve gates at once", last.firstInto(3), 0);
        Checks.due("when the gate 11 lets out again", last.firstInto(4), 2048);
        for (int gate = 0; gate < 11; gate++) {
            last.flip(gate);
        }
        Checks.due("the ball in the middle", last.firstInto(3), 2047);
        Checks.due("the last ball of all", last.firstInto(4), 4095);
        Checks.refusedAsIndex(x, "firstInto(5)", () -> x.firstInto(5));
        Checks.refusedAsIndex(x, "firstInto(-1)", () -> x.firstInto(-1));
        Checks.refusedAsIndex(x, "firstInto(20)", () -> x.firstInto(20));
    }

    private static void thePeriodIsFound() {
        int due = 1;
        for (int size = 1; size <= 12; size++) {
            due *= 2;
            MarbleGates x = chain(size);
            Checks.due("the period of a chain of " + size, x.period(), due);
            x.flip(0);
            Checks.due("the period after a flip", x.period(), due);
        }
        Checks.due("the period of three gates", threeGates().period(), 8);
        Checks.due("gates that no ball reaches", Checks.gates(1, 2, 3).period(), 2);
    }

    private static void theWaysAreMeasured() {
        MarbleGates x = Checks.gates(1, 2, 3, 4);
        Checks.due("most, a lone gate", x.way(true), 1);
        Checks.due("least, a lone gate", x.way(false), 1);
        x.lead(0, 0, 1);
        Checks.due("most", x.way(true), 2);
        Checks.due("least", x.way(false), 1);
        x.lead(0, 1, 3);
        x.lead(1, 0, 2);
        x.lead(1, 1, 2);
        x.lead(2, 1, 3);
        Checks.due("most", x.way(true), 4);
        Checks.due("least", x.way(false), 2);
        x.flip(0);
        Checks.due("however the gates stand", x.way(true), 4);
        Checks.due("through twelve", chain(12).way(true), 12);
        Checks.due("out at once", chain(12).way(false), 1);
    }

    private static void onlyTheStandingGatesMatter() {
        MarbleGates x = threeGates();
        x.drop(40);
        x.play(5);
        String before = Checks.view(x);
        int balls = 0;
        for (int target = 20; target < 25; target++) {
            balls += x.rolled(100, target, 0);
        }
        Checks.due("all come into bins", balls, 100);
        Checks.due("the first goes as the gates stand", x.binOf(0), firstBinFrom(x, 0));
        x.period();
        x.firstInto(4);
        x.way(false);
        Checks.dueText("nothing changes", Checks.view(x), before);
    }

    private static int firstBinFrom(MarbleGates x, int gate) {
        int target = gate;
        while (target < 20) {
            target = x.gateOf(target, 2 + x.gateOf(target, 0));
        }
        return target - 20;
    }
}
