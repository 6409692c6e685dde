/** Promises 7 to 9: drop, play, empty. */
public final class PlayingTest {
    public static void main(String[] args) {
        dropsAreCounted();
        dropsAreRefused();
        aBallRolls();
        ballsKeepTheirOrder();
        theGapIsKept();
        withoutGatesNothingDrops();
        theStockRunsOut();
        theLiftBringsBack();
        theLiftComesAfterTheDrop();
        playIsRefusedAndUndone();
        binsAreEmptied();
        Checks.end("PlayingTest");
    }

    private static void dropsAreCounted() {
        MarbleGates x = new MarbleGates();
        Checks.due("drop(1)", x.drop(1), 1);
        Checks.due("drop(40)", x.drop(40), 41);
        Checks.due("to be dropped", x.count(4), 41);
        Checks.due("dropped", x.count(7), 0);
        Checks.due("undo()", x.undo(), 1);
        Checks.due("to be dropped after undo", x.count(4), 1);
    }

    private static void dropsAreRefused() {
        MarbleGates x = new MarbleGates();
        Checks.refusedAsArgument(x, "drop(0)", () -> x.drop(0));
        Checks.refusedAsArgument(x, "drop(41)", () -> x.drop(41));
        Checks.refusedAsArgument(x, "drop(-1)", () -> x.drop(-1));
        for (int i = 1; i <= 4; i++) {
            x.drop(40);
        }
        Checks.due("drop(39) to 199", x.drop(39), 199);
        Checks.refusedAsState(x, "drop(2) to 201", () -> x.drop(2));
        Checks.due("drop(1) to 200", x.drop(1), 200);
        Checks.refusedAsState(x, "drop(1) to 201", () -> x.drop(1));
        Checks.refusedAsArgument(x, "drop(41) at 200", () -> x.drop(41));
        Checks.refusedAsArgument(x, "drop(max)", () -> x.drop(Integer.MAX_VALUE));
    }

    private static void aBallRolls() {
        MarbleGates x = Checks.gates(5, 9);
        x.lead(0, 0, 1);
        x.lead(1, 0, 23);
        x.drop(1);
        Checks.due("play(1), the drop", x.play(1), 0);
        Checks.due("stock", x.count(2), 39);
        Checks.due("in the run", x.count(3), 1);
        Checks.due("to be dropped", x.count(4), 0);
        Checks.due("dropped", x.count(7), 1);
        Checks.due("its gate", x.ball(0, 0), 0);
        Checks.due("play(1), the first gate", x.play(1), 1);
        Checks.due("its gate", x.ball(0, 0), 1);
        Checks.due("the gate 0 stands right", x.gateOf(0, 0), 1);
        Checks.due("left through the exit 0", x.gateOf(0, 4), 1);
        Checks.due("play(1), the second gate", x.play(1), 1);
        Checks.due("in the run", x.count(3), 0);
        Checks.due("in the bin 3", x.bin(3, 0), 1);
        Checks.due("came into the bin 3", x.bin(3, 1), 1);
        Checks.due("stock", x.count(2), 39);
        Checks.due("play(50), nothing more", x.play(50), 0);
        Checks.due("the beat", x.count(0), 53);
        Checks.due("the latest note's beat", x.note(0, 0), 3);
        Checks.due("the latest note's pitch", x.note(0, 2), 9);
    }

    private static void ballsKeepTheirOrder() {
        MarbleGates x = Checks.gates(5, 9);
        x.lead(0, 0, 1);
        x.lead(0, 1, 1);
        x.drop(3);
        x.play(2);
        Checks.due("the earliest is at the gate 1", x.ball(0, 0), 1);
        Checks.due("the next is at the gate 0", x.ball(1, 0), 0);
        Checks.due("play(1)", x.play(1), 2);
        Checks.due("the earlier ball rang first", x.note(1, 1), 1);
        Checks.due("the later ball rang then", x.note(0, 1), 0);
        Checks.due("now the earliest was dropped in the beat 2", x.ball(0, 1), 2);
        Checks.due("and passed", x.ball(0, 2), 1);
        Checks.due("the next was dropped in the beat 3", x.ball(1, 1), 3);
        Checks.due("and passed", x.ball(1, 2), 0);
    }

    private static void theGapIsKept() {
        MarbleGates x = Checks.gates(5);
        x.set(0, 3);
        x.drop(5);
        x.play(2);
        Checks.due("dropped in 2 beats", x.count(7), 0);
        x.play(1);
        Checks.due("dropped in 3 beats", x.count(7), 1);
        x.play(5);
        Checks.due("dropped in 8 beats", x.count(7), 2);
        x.play(1);
        Checks.due("dropped in 9 beats", x.count(7), 3);
        Checks.due("its beat", x.ball(0, 1), 9);
    }

    private static void withoutGatesNothingDrops() {
        MarbleGates x = new MarbleGates();
        x.drop(2);
        Checks.due("play(5)", x.play(5), 0);
        Checks.due("to be dropped", x.count(4), 2);
        Checks.due("the beat", x.count(0), 5);
        x.gate(3);
        Checks.due("play(3)", x.play(3), 2);
        Checks.due("to be dropped", x.count(4), 0);
    }

    private static void theStockRunsOut() {
        MarbleGates x = Checks.gates(5);
        x.lead(0, 1, 21);
        x.drop(40);
        x.drop(5);
        x.play(45);
        Checks.due("dropped", x.count(7), 40);
        Checks.due("to be dropped", x.count(4), 5);
        Checks.due("stock", x.count(2), 0);
        Checks.due("empty(1)", x.empty(1), 20);
        x.play(10);
        Checks.due("dropped", x.count(7), 45);
        Checks.due("stock", x.count(2), 15);
    }

    private static void theLiftBringsBack() {
        MarbleGates x = Checks.gates(5);
        x.lead(0, 0, 23);
        x.lead(0, 1, 21);
        x.drop(4);
        x.play(10);
        x.set(1, 2);
        x.play(1);
        Checks.due("of equal bins the lowest gives", x.bin(1, 0), 1);
        Checks.due("the other keeps", x.bin(3, 0), 2);
        Checks.due("lifted", x.count(8), 1);
        Checks.due("stock", x.count(2), 37);
        x.play(1);
        Checks.due("then the fuller one gives", x.bin(3, 0), 1);
        x.play(5);
        Checks.due("below the level nothing is lifted", x.count(8), 2);
        Checks.due("came into the bin 1", x.bin(1, 1), 2);
        x.set(1, 1);
        x.play(5);
        Checks.due("all are back", x.count(2), 40);
        Checks.due("an empty bin gives none", x.count(8), 4);
    }

    private static void theLiftComesAfterTheDrop() {
        MarbleGates x = Checks.gates(5);
        x.drop(40);
        x.play(41);
        Checks.due("the forty in the bin 0 meet the level 40", x.bin(0, 0), 39);
        Checks.due("lifted", x.count(8), 1);
        x.undo();
        x.drop(1);
        x.play(41);
        Checks.due("the stock was empty when the drop was due", x.count(7), 40);
        Checks.due("stock", x.count(2), 1);
        x.play(1);
        Checks.due("one beat later it drops", x.count(7), 41);
    }

    private static void playIsRefusedAndUndone() {
        MarbleGates x = Checks.gates(5);
        x.drop(3);
        Checks.refusedAsArgument(x, "play(0)", () -> x.play(0));
        Checks.refusedAsArgument(x, "play(51)", () -> x.play(51));
        Checks.refusedAsArgument(x, "play(-1)", () -> x.play(-1));
        String before = Checks.stateView(x);
        Checks.due("play(50)", x.play(50), 3);
        Checks.due("saved as one call", x.count(10), 3);
        Checks.due("undo()", x.undo(), 2);
        Checks.dueText("the state before", Checks.stateView(x), before);
    }

    private static void binsAreEmptied() {
        MarbleGates x = Checks.gates(5);
        x.lead(0, 1, 24);
        x.drop(3);
        x.play(5);
        Checks.due("empty(0)", x.empty(0), 2);
        Checks.due("its balls", x.bin(0, 0), 0);
        Checks.due("came into it", x.bin(0, 1), 2);
        Checks.due("the bin 4 keeps", x.bin(4, 0), 1);
        Checks.due("stock", x.count(2), 39);
        Checks.due("not lifted", x.count(8), 0);
        Checks.due("empty(0) again", x.empty(0), 0);
        Checks.due("saved even if nothing changes", x.count(10), 6);
        Checks.refusedAsIndex(x, "empty(5)", () -> x.empty(5));
        Checks.refusedAsIndex(x, "empty(-1)", () -> x.empty(-1));
        Checks.refusedAsIndex(x, "empty(20)", () -> x.empty(20));
        x.undo();
        x.undo();
        Checks.due("its balls after undo", x.bin(0, 0), 2);
        Checks.due("stock after undo", x.count(2), 37);
    }
}
