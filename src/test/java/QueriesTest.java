/** Promises 17 to 20: gateOf, ball, bin, count. */
public final class QueriesTest {
    public static void main(String[] args) {
        gatesAreTold();
        ballsAreTold();
        aBallsWayIsForetold();
        binsAreTold();
        numbersAreCounted();
        Checks.end("QueriesTest");
    }

    private static MarbleGates threeGates() {
        MarbleGates x = Checks.gates(11, 12, 13);
        x.lead(0, 0, 1);
        x.lead(0, 1, 2);
        x.lead(1, 0, 2);
        x.lead(1, 1, 21);
        x.lead(2, 0, 22);
        x.lead(2, 1, 23);
        return x;
    }

    private static void dueGate(MarbleGates x, int gate, int... due) {
        for (int what = 0; what < due.length; what++) {
            Checks.due("gateOf(" + gate + ", " + what + ")", x.gateOf(gate, what), due[what]);
        }
    }

    private static void gatesAreTold() {
        MarbleGates x = threeGates();
        x.flip(1);
        x.drop(4);
        x.play(4);
        dueGate(x, 0, 1, 11, 1, 2, 2, 1, 1, 0);
        dueGate(x, 1, 0, 12, 2, 21, 0, 1, 1, 1);
        dueGate(x, 2, 1, 13, 22, 23, 1, 0, 0, 0);
        Checks.refusedAsIndex(x, "gateOf(3, 0)", () -> x.gateOf(3, 0));
        Checks.refusedAsIndex(x, "gateOf(3, 8)", () -> x.gateOf(3, 8));
        Checks.refusedAsIndex(x, "gateOf(-1, 0)", () -> x.gateOf(-1, 0));
        Checks.refusedAsArgument(x, "gateOf(0, 8)", () -> x.gateOf(0, 8));
        Checks.refusedAsArgument(x, "gateOf(0, -1)", () -> x.gateOf(0, -1));
    }

    private static void ballsAreTold() {
        MarbleGates x = threeGates();
        x.set(0, 2);
        x.drop(3);
        x.play(4);
        int[][] due = {{2, 2, 2, 1, 2}, {0, 4, 0, 2, 2}};
        x.undo();
        x.play(3);
        Checks.due("one ball", x.count(3), 1);
        Checks.due("ball(0, 0)", x.ball(0, 0), 1);
        Checks.due("ball(0, 2)", x.ball(0, 2), 1);
        x.play(1);
        for (int rank = 0; rank < 2; rank++) {
            for (int what = 0; what < 5; what++) {
                Checks.due("ball(" + rank + ", " + what + ")", x.ball(rank, what), due[rank][what]);
            }
        }
        Checks.due("ball(2, 0)", x.ball(2, 0), MarbleGates.NONE);
        Checks.due("ball(max, 4)", x.ball(Integer.MAX_VALUE, 4), MarbleGates.NONE);
        Checks.refusedAsArgument(x, "ball(-1, 0)", () -> x.ball(-1, 0));
        Checks.refusedAsArgument(x, "ball(0, 5)", () -> x.ball(0, 5));
        Checks.refusedAsArgument(x, "ball(0, -1)", () -> x.ball(0, -1));
        Checks.refusedAsArgument(x, "ball(9, 5)", () -> x.ball(9, 5));
    }

    private static void aBallsWayIsForetold() {
        MarbleGates x = threeGates();
        x.drop(1);
        x.play(1);
        Checks.due("beats to a bin", x.ball(0, 3), 3);
        Checks.due("the bin", x.ball(0, 4), 2);
        x.flip(2);
        Checks.due("the bin after flip(2)", x.ball(0, 4), 3);
        x.flip(1);
        Checks.due("beats to a bin after flip(1)", x.ball(0, 3), 2);
        Checks.due("the bin after flip(1)", x.ball(0, 4), 1);
        x.play(1);
        Checks.due("beats to a bin, a beat later", x.ball(0, 3), 1);
        x.play(1);
        Checks.due("it came into the bin 1", x.bin(1, 0), 1);
        MarbleGates chain = Checks.gates(0, 1, 2, 3, 4, 5, 6, 7, 8, 9, 10, 11);
        for (int gate = 0; gate < 11; gate++) {
            chain.lead(gate, 0, gate + 1);
        }
        chain.lead(11, 0, 24);
        chain.drop(1);
        chain.play(1);
        Checks.due("beats through twelve gates", chain.ball(0, 3), 12);
        Checks.due("the bin behind twelve gates", chain.ball(0, 4), 4);
    }

    private static void binsAreTold() {
        MarbleGates x = threeGates();
        x.drop(5);
        x.play(20);
        int[][] due = {{0, 0, 0}, {1, 1, 1}, {2, 2, 1}, {2, 2, 1}, {0, 0, 0}};
        for (int bin = 0; bin < 5; bin++) {
            for (int what = 0; what < 3; what++) {
                Checks.due("bin(" + bin + ", " + what + ")", x.bin(bin, what), due[bin][what]);
            }
        }
        x.empty(2);
        Checks.due("bin(2, 0) after empty", x.bin(2, 0), 0);
        Checks.due("bin(2, 1) after empty", x.bin(2, 1), 2);
        x.lead(0, 0, 24);
        x.lead(0, 1, 24);
        Checks.due("two exits of one gate", x.bin(4, 2), 2);
        Checks.refusedAsIndex(x, "bin(5, 0)", () -> x.bin(5, 0));
        Checks.refusedAsIndex(x, "bin(5, 3)", () -> x.bin(5, 3));
        Checks.refusedAsIndex(x, "bin(-1, 0)", () -> x.bin(-1, 0));
        Checks.refusedAsIndex(x, "bin(20, 0)", () -> x.bin(20, 0));
        Checks.refusedAsArgument(x, "bin(0, 3)", () -> x.bin(0, 3));
        Checks.refusedAsArgument(x, "bin(0, -1)", () -> x.bin(0, -1));
    }

    private static void numbersAreCounted() {
        MarbleGates x = threeGates();
        x.set(0, 2);
        x.set(1, 2);
        x.drop(40);
        x.drop(3);
        x.play(29);
        x.append('g');
        int[] due = {29, 3, 36, 1, 29, 2, 2, 14, 10, 31, 6, 1};
        for (int what = 0; what < due.length; what++) {
            Checks.due("count(" + what + ")", x.count(what), due[what]);
        }
        Checks.due("all balls are somewhere", x.count(2) + x.count(3) + x.bin(0, 0) + x.bin(1, 0) + x.bin(2, 0)
                + x.bin(3, 0) + x.bin(4, 0), 40);
        Checks.refusedAsArgument(x, "count(12)", () -> x.count(12));
        Checks.refusedAsArgument(x, "count(-1)", () -> x.count(-1));
    }
}
