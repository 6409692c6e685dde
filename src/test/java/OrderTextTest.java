import java.util.List;

/** Promises 10 to 13: append, clearBuffer, firstError, execute; and "Order text" in "Terms". */
public final class OrderTextTest {
    private static final String DIGITS = "0123456789";
    private static final String KINDS = "gedtf";

    public static void main(String[] args) {
        charactersAreAppended();
        theBufferIsCleared();
        onlyTheseCharactersMayFollow();
        theFirstErrorIsFound();
        incompleteTextsHaveNoError();
        ordersAreExecuted();
        eachNumberIsExecuted();
        anOrderDoesWhatItsMethodDoes();
        executionStopsWhereAMethodWouldThrow();
        executionClearsAndStops();
        incompleteTextsAreRefused();
        executeIsUndoableAsOneCall();
        Checks.end("OrderTextTest");
    }

    private static void charactersAreAppended() {
        Script.holds("10: Appends a character to the buffer. Returns the new length of the buffer.",
                "append(103) = 1; append(49) = 2; count(11) = 2; firstError() = 2; execute() = 1; gateOf(0, 1) = 1");
        Script.holds("10: `code`: a character code, 33 to 126", "append(33) = 1; append(126) = 2; count(11) = 2");
        Script.holds("10: Throws `IllegalArgumentException` if code is out of range",
                "append(32) ! argument; append(127) ! argument; append(0) ! argument; append(-1) ! argument",
                "append(359) ! argument; append(min) ! argument; append(max) ! argument; count(11) = 0");
        Script.holds("10: Throws `IllegalStateException` if the buffer holds 60 characters",
                "59 * append(103); append(33) = 60; append(33) ! state; append(126) ! state; count(11) = 60",
                "clearBuffer() = 60; append(126) = 1");
        Script.holds("10: the one that its throws clause lists first is thrown",
                "60 * append(103); append(32) ! argument; append(127) ! argument; append(-1) ! argument");
        Script.holds("The buffer holds at most 60 characters. It is empty at first.",
                "count(11) = 0; 59 * append(103); append(103) = 60; append(103) ! state; count(11) = 60");
    }

    private static void theBufferIsCleared() {
        Script.holds("11: Clears the buffer. Returns the length that it had.",
                "clearBuffer() = 0; append(103); append(49); clearBuffer() = 2; count(11) = 0; firstError() = 0",
                "clearBuffer() = 0; 60 * append(120); clearBuffer() = 60; count(11) = 0; append(103) = 1",
                "firstError() = 1");
        Script.holds("10, 11 and 12 are not undoable", "append(103); firstError(); clearBuffer(); count(10) = 0");
    }

    private static void mayFollow(String text, String allowed) {
        for (char c = 33; c <= 126; c++) {
            int due = text.length() + (allowed.indexOf(c) >= 0 ? 1 : 0);
            Script.holds("12: after " + text + " comes " + c, "type " + text + c, "firstError() = " + due);
        }
    }

    private static void mayFollowEach(String[] texts, String allowed) {
        for (String text : texts) {
            mayFollow(text, allowed);
        }
    }

    private static void onlyTheseCharactersMayFollow() {
        mayFollowEach(new String[] {"", "g1;", "e0Lb0;", "e11R11;d40;"}, KINDS);
        mayFollowEach(new String[] {"g", "e", "f", "t5;g"}, DIGITS);
        mayFollowEach(new String[] {"d", "t"}, "123456789");
        mayFollowEach(new String[] {"g1", "g2", "d1", "d2", "d3", "t1", "t2", "t3", "t4"}, DIGITS + ";");
        mayFollowEach(new String[] {"g3", "d4", "t5"}, "0;");
        mayFollowEach(new String[] {"f1", "e0L1", "e11R1"}, "01;");
        mayFollowEach(new String[] {"g0", "g4", "g9", "g10", "g29", "g30", "d5", "d9", "d10", "d39", "d40", "t6", "t9",
            "t10", "t49", "t50", "f0", "f2", "f9", "f10", "f11", "e0L0", "e0L2", "e0L9", "e0L10", "e0R11", "e0Lb0",
            "e0Rb4"}, ";");
        mayFollow("e1", "01LR");
        mayFollowEach(new String[] {"e0", "e2", "e9", "e10", "e11"}, "LR");
        mayFollowEach(new String[] {"e0L", "e0R", "e11L", "e11R"}, DIGITS + "b");
        mayFollowEach(new String[] {"e0Lb", "e11Rb"}, "01234");
    }

    private static void errorAt(String sentence, int index, String... texts) {
        for (String text : texts) {
            Script.holds("12: " + sentence, "type " + text, "firstError() = " + index + "; count(11) = "
                    + text.length());
        }
    }

    private static void theFirstErrorIsFound() {
        errorAt("one or more orders with \";\" between them", 0, ";", ";g1", "x", "G1", "1");
        errorAt("one or more orders with \";\" between them", 3, "g1;;", "g1;x", "g1;1", "g1;;g1");
        errorAt("\"g\" and a pitch from 0 to 30", 2, "g31", "g39", "g40", "g99");
        errorAt("\"g\" and a pitch from 0 to 30", 1, "g-1", "g;", "g+1", "gg1");
        errorAt("\"g\" and a pitch from 0 to 30", 3, "g300", "g100");
        errorAt("\"e\", a gate from 0 to 11", 2, "e12L0", "e20L0", "e99L0");
        errorAt("\"L\" or \"R\" for the left or the right exit", 2, "e1l0", "e1r0", "e1;", "e1M", "e1K");
        errorAt("\"L\" or \"R\" for the left or the right exit", 3, "e1LL0", "e1RL0", "e11x", "e1L;");
        errorAt("then either a gate from 0 to 11", 4, "e0L12", "e0L20", "e0R13");
        errorAt("then either a gate from 0 to 11", 5, "e0L111", "e0R110", "e11R12");
        errorAt("or \"b\" and a bin from 0 to 4", 4, "e0Lb5", "e0Rb9", "e0Lb;", "e0Rbb");
        errorAt("or \"b\" and a bin from 0 to 4", 5, "e0Lb40", "e0Lb00", "e0Rb11");
        errorAt("or \"b\" and a bin from 0 to 4", 3, "e0LB1", "e0Rc1");
        errorAt("\"d\" and a number from 1 to 40", 1, "d0", "d;", "d-1");
        errorAt("\"d\" and a number from 1 to 40", 2, "d41", "d49", "d50");
        errorAt("\"d\" and a number from 1 to 40", 3, "d400", "d111");
        errorAt("\"t\" and a number from 1 to 50", 1, "t0", "t;", "t-1");
        errorAt("\"t\" and a number from 1 to 50", 2, "t51", "t59", "t60");
        errorAt("\"t\" and a number from 1 to 50", 3, "t500", "t111");
        errorAt("\"f\" and a gate from 0 to 11", 2, "f12", "f19", "f20");
        errorAt("\"f\" and a gate from 0 to 11", 1, "f;", "f-1", "fb");
        errorAt("Numbers have no leading zeros.", 2, "g00", "g01", "g030", "e00L1", "e01L1", "f00", "f01");
        errorAt("Numbers have no leading zeros.", 1, "d01", "t01", "d00");
        errorAt("Numbers have no leading zeros.", 4, "e0L00", "e0R01");
        errorAt("the index of the first character that no order text can have", 2, "g1x;x", "g31;g31", "d9:d9");
        errorAt("the index of the first character that no order text can have", 59,
                "t1;t1;t1;t1;t1;t1;t1;t1;t1;t1;t1;t1;t1;t1;t1;t1;t1;t1;t1;t1x", "t10;".repeat(14) + "e0L;");
    }

    private static void incompleteTextsHaveNoError() {
        String sentence = "the length of the buffer if there is no error (also if the text is not complete)";
        String[] texts = {"", "g", "g0", "g30", "g9;", "e", "e0", "e11", "e0L", "e0L0", "e11R11", "e10Lb", "e0Rb0",
            "e0Lb4;", "d", "d1", "d40", "d9;", "t", "t1", "t50", "t49", "f", "f0", "f11", "f10;t5;", "e3L2", "e3L3",
            "g1;".repeat(20), "t1;".repeat(19) + "t1", "t10;".repeat(14) + "e0L1", "t10;".repeat(14) + "e0Lb"};
        for (String text : texts) {
            errorAt(sentence, text.length(), text);
        }
        Script.changeNothing("12: Finds the first error", "gate(1); append(103); append(49); append(120); append(103)",
                "firstError() = 2");
    }

    private static void ordersAreExecuted() {
        Script.holds("13: Executes the orders in the buffer, one after the other. Returns how many orders are executed.",
                "type g7;g30;e0R1;e1Lb4;f1;d12;t10", "execute() = 7; count(11) = 0; count(1) = 2; gateOf(0, 1) = 7",
                "gateOf(1, 1) = 30; gateOf(0, 2) = 20; gateOf(0, 3) = 1; gateOf(1, 2) = 24; gateOf(1, 3) = 20",
                "gateOf(1, 7) = 1; gateOf(0, 7) = 0; count(4) = 2; count(7) = 10; count(0) = 10; count(9) = 13");
        Script.holds("13: one order", "gate(1)", "type f0", "execute() = 1; gateOf(0, 0) = 1");
        Script.holds("13: twenty orders", "type " + "t1;".repeat(19) + "t1", "execute() = 20; count(0) = 20");
        Script.holds("13: a text of 60 characters", "gate(1)", "type " + "t1;".repeat(17) + "t10;e0Lb4",
                "count(11) = 60; append(59) ! state; execute() = 19; count(0) = 27; gateOf(0, 2) = 24; count(11) = 0");
    }

    private static void eachNumberIsExecuted() {
        Script.holds("\"g\" and a pitch from 0 to 30", "type g0;g9;g10;g30", "execute() = 4; gateOf(0, 1) = 0",
                "gateOf(1, 1) = 9; gateOf(2, 1) = 10; gateOf(3, 1) = 30");
        Script.holds("\"e\", a gate from 0 to 11, \"L\" or \"R\" ..., and then either a gate from 0 to 11",
                "12 * gate(1)",
                "type e0L1;e0R11;e10L11;e8R10;e9L10", "execute() = 5; gateOf(0, 2) = 1; gateOf(0, 3) = 11",
                "gateOf(10, 2) = 11; gateOf(10, 3) = 20; gateOf(8, 3) = 10; gateOf(9, 2) = 10");
        Script.holds("or \"b\" and a bin from 0 to 4", "12 * gate(1); lead(11, 0, 21)",
                "type e0Lb0;e0Rb4;e11Lb0;e11Rb4;e10Lb1;e9Rb2;e8Lb3",
                "execute() = 7; gateOf(0, 2) = 20; gateOf(0, 3) = 24",
                "gateOf(11, 2) = 20; gateOf(11, 3) = 24; gateOf(10, 2) = 21; gateOf(9, 3) = 22; gateOf(8, 2) = 23");
        Script.holds("\"d\" and a number from 1 to 40", "type d1", "execute() = 1; count(4) = 1", "type d40",
                "execute() = 1; count(4) = 41", "type d9;d10", "execute() = 2; count(4) = 60");
        Script.holds("\"t\" and a number from 1 to 50", "type t1", "execute() = 1; count(0) = 1", "type t50",
                "execute() = 1; count(0) = 51", "type t9;t10", "execute() = 2; count(0) = 70");
        Script.holds("\"f\" and a gate from 0 to 11", "12 * gate(1)", "type f0;f11;f10;f9", "execute() = 4",
                "gateOf(0, 0) = 1; gateOf(11, 0) = 1; gateOf(10, 0) = 1; gateOf(9, 0) = 1; gateOf(1, 0) = 0");
    }

    private static void anOrderDoesWhatItsMethodDoes() {
        String gates = "11 * gate(5); lead(0, 0, 1); lead(1, 0, 2); drop(9); play(3)";
        String[][] pairs = {{"g0", "gate(0)"}, {"g10", "gate(10)"}, {"g30", "gate(30)"}, {"e0L1", "lead(0, 0, 1)"},
            {"e9R10", "lead(9, 1, 10)"}, {"e10Rb4", "lead(10, 1, 24)"}, {"e2Lb0", "lead(2, 0, 20)"}, {"d1", "drop(1)"},
            {"d9", "drop(9)"}, {"d40", "drop(40)"}, {"t1", "play(1)"}, {"t9", "play(9)"}, {"t10", "play(10)"},
            {"t50", "play(50)"}, {"f0", "flip(0)"}, {"f9", "flip(9)"}, {"f10", "flip(10)"}};
        for (String[] pair : pairs) {
            Script.endAlike("An order is: ... (as its method)", gates, List.of("type " + pair[0], "execute() = 1"),
                    List.of(pair[1]));
            Script.endAlike("An order is: ... (as its method), behind another", gates,
                    List.of("type e1Rb3;d2;" + pair[0], "execute() = 3"), List.of("lead(1, 1, 23); drop(2)", pair[1]));
        }
    }

    private static void stops(String before, String text, int executed) {
        Script.holds("13: up to the first one whose method would throw an exception", before, "type " + text
                + ";t50;t50",
                "execute() = " + executed + "; count(11) = 0; count(0) = 0");
        Script.holds("13: without the one whose method would throw", before, "type t1;" + text, "execute() = "
                + (executed + 1) + "; count(0) = 1");
    }

    private static void executionStopsWhereAMethodWouldThrow() {
        stops("11 * gate(1)", "g3;g4", 1);
        stops("12 * gate(1)", "g3", 0);
        stops("12 * gate(1)", "g30", 0);
        stops("count(0)", "e0Lb0", 0);
        stops("count(0)", "f0", 0);
        stops("2 * gate(1)", "f1;f2", 1);
        stops("2 * gate(1)", "f11", 0);
        stops("2 * gate(1)", "e1Lb0;e2Lb0", 1);
        stops("2 * gate(1)", "e11Rb4", 0);
        stops("2 * gate(1)", "e0L1;e0L2", 1);
        stops("2 * gate(1)", "e0R11", 0);
        stops("2 * gate(1)", "e0L0", 0);
        stops("2 * gate(1)", "e1L1", 0);
        stops("2 * gate(1)", "e1R0", 0);
        stops("12 * gate(1)", "e10R11;e11R11", 1);
        stops("12 * gate(1)", "e11L10", 0);
        stops("4 * drop(40)", "d40;d1", 1);
        stops("4 * drop(40)", "d39;d2", 1);
        stops("4 * drop(40); drop(1)", "d40", 0);
        stops("5 * drop(40)", "d1", 0);
    }

    private static void executionClearsAndStops() {
        Script.holds("13: up to the first one: a later one that could be executed is left out",
                "4 * drop(40); drop(39)", "type d2;d1;g1",
                "execute() = 0; count(4) = 199; count(1) = 0; count(11) = 0");
        Script.holds("13: an order counts with what the orders before it did",
                "type f0;g1", "execute() = 0; count(1) = 0", "type g1;f0;g2;e0L1;d1;t2", "execute() = 6; count(0) = 2",
                "gateOf(0, 7) = 1; gateOf(0, 5) = 1; count(7) = 1");
        Script.holds("13: a ball that is dropped makes room for another", "5 * drop(40)", "type g1;t1;d1;d1",
                "execute() = 3; count(4) = 200; count(7) = 1");
    }

    private static void incompleteTextsAreRefused() {
        String[] texts = {"", "g", "g1;", "e", "e1", "e11", "e1L", "e1Lb", "d", "t", "f", "t5;g", "x", "g31", "g1;;",
                "e12",
            "g1;e0L", "d1;e0", ";g1", "g1;x", "d0", "g00", "g1;".repeat(20), "t1;".repeat(19) + "t"};
        for (String text : texts) {
            Script.holds("13: Throws `IllegalArgumentException` if the buffer is not a complete order text", "gate(4)",
                    "type " + text, "execute() ! argument; count(11) = " + text.length() + "; count(1) = 1");
        }
    }

    private static void executeIsUndoableAsOneCall() {
        Script.isUndoable("type g1;g2;d3;t9", "execute()");
        Script.isUndoable("gate(1); drop(3)", "type f0;t9;g1;e0Lb4;d40;t50", "execute()");
        Script.isUndoable("gate(1); drop(3)", "type f1", "execute()");
        Script.holds("13: Undoable, as one call: undo leaves the buffer", "type g1;g2;d3;t9",
                "execute() = 4; count(10) = 1",
                "type f0", "undo() = 0; count(1) = 0; count(11) = 2; execute() = 0; count(10) = 1; count(11) = 0");
    }
}
