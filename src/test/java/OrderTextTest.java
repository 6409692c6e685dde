/** Promises 10 to 13: append, clearBuffer, firstError, execute. */
public final class OrderTextTest {
    public static void main(String[] args) {
        charactersAreAppended();
        theBufferIsCleared();
        errorsAreFound();
        completeTextsHaveNoError();
        ordersAreExecuted();
        executionStopsWhereAMethodWouldThrow();
        incompleteTextsAreRefused();
        executeIsOneCall();
        Checks.end("OrderTextTest");
    }

    private static void charactersAreAppended() {
        MarbleGates x = new MarbleGates();
        Checks.refusedAsArgument(x, "append(32)", () -> x.append(32));
        Checks.refusedAsArgument(x, "append(127)", () -> x.append(127));
        Checks.refusedAsArgument(x, "append(-1)", () -> x.append(-1));
        Checks.due("append(33)", x.append(33), 1);
        Checks.due("append(126)", x.append(126), 2);
        for (int length = 3; length <= 60; length++) {
            Checks.due("append to " + length, x.append('g'), length);
        }
        Checks.due("length", x.count(11), 60);
        Checks.refusedAsState(x, "append to 61", () -> x.append('g'));
        Checks.refusedAsArgument(x, "append(32) to 61", () -> x.append(32));
        Checks.due("not undoable", x.count(10), 0);
    }

    private static void theBufferIsCleared() {
        MarbleGates x = new MarbleGates();
        Checks.due("clearBuffer() of an empty one", x.clearBuffer(), 0);
        Checks.type(x, "x1");
        Checks.due("clearBuffer()", x.clearBuffer(), 2);
        Checks.due("length", x.count(11), 0);
        Checks.due("firstError()", x.firstError(), 0);
        Checks.due("append after clearing", x.append('g'), 1);
        Checks.due("not undoable", x.count(10), 0);
    }

    private static void errorAt(String text, int index) {
        MarbleGates x = new MarbleGates();
        Checks.type(x, text);
        Checks.due("firstError() of " + text, x.firstError(), index);
        Checks.due("length of " + text, x.count(11), text.length());
    }

    private static void errorsAreFound() {
        String[] atZero = {"x", "G", "1", ";", "L", "b", "E", "T"};
        for (String text : atZero) {
            errorAt(text, 0);
        }
        String[] atOne = {"gg", "g;", "gL", "eL", "eb", "e;", "d0", "t0", "d;", "t;", "f;", "fb", "d:", "g/"};
        for (String text : atOne) {
            errorAt(text, 1);
        }
        String[] atTwo = {"g31", "g40", "g00", "g01", "gL1", "e12", "e20", "e01", "e1;", "e1b", "e1l", "d41", "d50",
            "t51", "t60", "f12", "f20", "f01", "g1L", "f1R", "d1b", "g4:"};
        for (String text : atTwo) {
            errorAt(text, text.charAt(1) == 'L' ? 1 : 2);
        }
        errorAt("g300", 3);
        errorAt("f110", 3);
        errorAt("e1LL", 3);
        errorAt("e1L;", 3);
        errorAt("e11R12", 5);
        errorAt("e1R20", 4);
        errorAt("e1R00", 4);
        errorAt("e1Rb5", 4);
        errorAt("e1Rb;", 4);
        errorAt("e1Rb44", 5);
        errorAt("e1Rbb", 4);
        errorAt("e1R1b", 4);
        errorAt("e1R111", 5);
        errorAt("g1;;", 3);
        errorAt("g1;x", 3);
        errorAt("g1,g2", 2);
        errorAt("g1;d41;x", 5);
    }

    private static void completeTextsHaveNoError() {
        String[] texts = {"", "g", "g0", "g30", "g9;", "e", "e0", "e11", "e0L", "e0L0", "e11R11", "e10Lb", "e0Rb0",
            "e0Lb4;", "d1", "d40", "d9;", "t1", "t50", "t49", "f0", "f11", "f10;t5;", "e0L10;e9R9;g29;d39"};
        for (String text : texts) {
            errorAt(text, text.length());
        }
        errorAt("g1;g1;g1;g1;g1;g1;g1;g1;g1;g1;g1;g1;g1;g1;g1;g1;g1;g1;g1;g1;", 60);
    }

    private static void ordersAreExecuted() {
        MarbleGates x = new MarbleGates();
        Checks.type(x, "g7;g30;e0R1;e1Lb4;f1;d12;t10");
        Checks.due("execute()", x.execute(), 7);
        Checks.due("the buffer is cleared", x.count(11), 0);
        Checks.due("gates", x.count(1), 2);
        Checks.due("pitch", x.gateOf(1, 1), 30);
        Checks.due("right target of 0", x.gateOf(0, 3), 1);
        Checks.due("left target of 0", x.gateOf(0, 2), 20);
        Checks.due("left target of 1", x.gateOf(1, 2), 24);
        Checks.due("flipped", x.gateOf(1, 7), 1);
        Checks.due("to be dropped", x.count(4), 2);
        Checks.due("dropped", x.count(7), 10);
        Checks.due("the beat", x.count(0), 10);
        Checks.type(x, "f0");
        Checks.due("execute() of one", x.execute(), 1);
        Checks.type(x, "g1;g2;g3;g4;g5;g6;g7;g8;g9;g10;e0L11;e10Rb0");
        Checks.due("execute() up to 12 gates", x.execute(), 12);
        Checks.due("gates", x.count(1), 12);
        Checks.due("two digits lead", x.gateOf(0, 2), 11);
    }

    private static void stopsAfter(MarbleGates x, String text, int executed) {
        Checks.type(x, text);
        int saved = x.count(10);
        Checks.due("execute() of " + text, x.execute(), executed);
        Checks.due("length after " + text, x.count(11), 0);
        Checks.due("saved after " + text, x.count(10), Math.min(saved + 1, 6));
    }

    private static void executionStopsWhereAMethodWouldThrow() {
        stopsAfter(new MarbleGates(), "f0;g1", 0);
        stopsAfter(new MarbleGates(), "g1;e0L0;g2", 1);
        stopsAfter(new MarbleGates(), "g1;e0L1;g2", 1);
        stopsAfter(new MarbleGates(), "g1;e1Lb0;g2", 1);
        stopsAfter(new MarbleGates(), "g1;g1;e1R0;g2", 2);
        stopsAfter(new MarbleGates(), "g1;f1", 1);
        MarbleGates x = new MarbleGates();
        stopsAfter(x, "d40;d40;d40;d40;d39;d2;d1", 5);
        Checks.due("to be dropped", x.count(4), 199);
        stopsAfter(x, "d1;d1;t1", 1);
        Checks.due("the order after the stop is left out", x.count(0), 0);
        MarbleGates full = new MarbleGates();
        stopsAfter(full, "g1;g1;g1;g1;g1;g1;g1;g1;g1;g1;g1;g1;g1;t1", 12);
        Checks.due("gates", full.count(1), 12);
    }

    private static void incompleteTextsAreRefused() {
        String[] texts = {"", "g", "g1;", "e", "e1", "e1L", "e1Lb", "d", "t", "f", "t5;g", "x", "g31", "g1;;", "e12",
            "g1;e0L", "d1;e0"};
        for (String text : texts) {
            MarbleGates x = Checks.gates(4);
            Checks.type(x, text);
            Checks.refusedAsArgument(x, "execute() of " + text, () -> x.execute());
            Checks.due("length of " + text, x.count(11), text.length());
        }
    }

    private static void executeIsOneCall() {
        MarbleGates x = new MarbleGates();
        String before = Checks.stateView(x);
        Checks.type(x, "g1;g2;d3;t9");
        Checks.due("execute()", x.execute(), 4);
        Checks.due("saved states", x.count(10), 1);
        Checks.type(x, "f0");
        Checks.due("undo()", x.undo(), 0);
        Checks.dueText("the state before", Checks.stateView(x), before);
        Checks.due("undo leaves the buffer", x.count(11), 2);
        Checks.due("execute() of nothing that can be done", x.execute(), 0);
        Checks.due("is saved too", x.count(10), 1);
    }
}
