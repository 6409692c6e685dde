/** Promises 17 to 20: gateOf, ball, bin, count. */
public final class QueriesTest {
    private static final String THREE_GATES = "gate(11); gate(12); gate(13); lead(0, 0, 1); lead(0, 1, 2); lead(1, 0, 2)"
            + "; lead(1, 1, 21); lead(2, 0, 22); lead(2, 1, 23)";

    public static void main(String[] args) {
        gatesAreTold();
        gatesAreRefused();
        ballsAreTold();
        aBallsWayIsForetold();
        ballsAreRefused();
        binsAreTold();
        numbersAreCounted();
        Checks.end("QueriesTest");
    }

    /** Rows that ask for each number of a thing; the numbers that are due stand in their order. */
    private static String each(String call, int... due) {
        StringBuilder rows = new StringBuilder();
        for (int what = 0; what < due.length; what++) {
            rows.append(what > 0 ? "; " : "").append(call).append(what).append(") = ").append(due[what]);
        }
        return rows.toString();
    }

    private static void gatesAreTold() {
        Script.holds("17: Returns a number of a gate.", THREE_GATES, "flip(1); drop(4); play(4)",
                each("gateOf(0, ", 1, 11, 1, 2, 2, 1, 1, 0), each("gateOf(1, ", 0, 12, 2, 21, 0, 1, 1, 1),
                each("gateOf(2, ", 1, 13, 22, 23, 1, 0, 0, 0));
        Script.holds("17: 4 and 5 how many balls left through its exits 0 and 1 so far, the last of 12 gates",
                "12 * gate(1); lead(0, 0, 11); lead(0, 1, 11); drop(5); play(10)", each("gateOf(11, ", 1, 1, 20, 20,
                3, 2, 0, 0),
                each("gateOf(0, ", 1, 1, 11, 11, 3, 2, 0, 0));
        Script.holds("17: `gate`: its number, the last of 12", "11 * gate(1); gate(30); lead(11, 1, 24); flip(11)",
                each("gateOf(11, ", 1, 30, 20, 24, 0, 0, 0, 1));
        Script.changeNothing("17: queries; nothing changes", THREE_GATES + "; drop(4); play(4)", "gateOf(0, 0)",
                "gateOf(2, 6)", "gateOf(1, 7)");
    }

    private static void gatesAreRefused() {
        Script.holds("17: Throws `IndexOutOfBoundsException` if there is no such gate", "gateOf(0, 0) ! index",
                THREE_GATES,
                "gateOf(3, 0) ! index; gateOf(-1, 0) ! index; gateOf(min, 7) ! index; gateOf(max, 7) ! index",
                "gateOf(20, 0) ! index; gateOf(2, 0) = 0");
        Script.holds("17: Throws `IllegalArgumentException` if what is not 0 to 7", THREE_GATES,
                "gateOf(0, -1) ! argument; gateOf(0, 8) ! argument; gateOf(2, min) ! argument; gateOf(2, max) ! argument",
                "gateOf(0, 0) = 0; gateOf(0, 7) = 0");
        Script.holds("17: the one that its throws clause lists first is thrown", "gateOf(0, 8) ! index", THREE_GATES,
                "gateOf(3, 8) ! index; gateOf(-1, -1) ! index");
    }

    private static void ballsAreTold() {
        Script.holds("18: Returns a number of a ball in the run.", THREE_GATES,
                "set(0, 2); drop(3); play(3); count(3) = 1",
                "ball(0, 0) = 1; ball(0, 1) = 2; ball(0, 2) = 1; play(1)", each("ball(0, ", 2, 2, 2, 1, 2),
                each("ball(1, ", 0, 4, 0, 2, 2));
        Script.holds("18: 1 the beat in which it was dropped, 2 how many gates it passed so far, of a later ball at a rank",
                "3 * gate(1); lead(0, 0, 1); lead(0, 1, 1); lead(1, 0, 2); drop(1); play(3); ball(0, 2) = 2; play(1)",
                "ball(0, 2) = NONE; drop(2); play(1); ball(0, 0) = 0; ball(0, 1) = 5; ball(0, 2) = 0; play(1)",
                "ball(0, 2) = 1; ball(1, 1) = 6; ball(1, 2) = 0");
        String none = "18: NONE if there are not so many balls in the run";
        Script.holds(none, "ball(0, 0) = NONE; ball(0, 4) = NONE", THREE_GATES, "ball(0, 3) = NONE; drop(2); play(1)",
                "ball(0, 0) = 0; ball(1, 0) = NONE; ball(1, 1) = NONE; ball(1, 2) = NONE; ball(1, 3) = NONE",
                "ball(1, 4) = NONE; play(1); ball(1, 0) = 0; ball(2, 0) = NONE; ball(40, 0) = NONE; ball(max, 4) = NONE");
        Script.holds(none + ": the places of balls that have left", "gate(1); drop(2); play(3); ball(0, 0) = NONE",
                "ball(0, 1) = NONE; ball(0, 2) = NONE; ball(0, 3) = NONE; ball(0, 4) = NONE");
        Script.changeNothing("18: queries; nothing changes", THREE_GATES + "; drop(4); play(4)", "ball(0, 0)",
                "ball(0, 1)",
                "ball(0, 2)", "ball(1, 3)", "ball(1, 4)", "ball(9, 4) = NONE");
    }

    private static void aBallsWayIsForetold() {
        Script.holds("18: 3 in how many beats from now it comes into a bin, 4 the bin into which it comes then",
                THREE_GATES,
                "drop(1); play(1); ball(0, 3) = 3; ball(0, 4) = 2; flip(2); ball(0, 4) = 3; flip(1); ball(0, 3) = 2",
                "ball(0, 4) = 1; play(1); ball(0, 3) = 1; play(1); bin(1, 0) = 1; ball(0, 3) = NONE");
        Script.holds("18: if no other ball passes a gate until then",
                "2 * gate(1); lead(0, 0, 1); lead(0, 1, 1); lead(1, 0, 21); lead(1, 1, 22); drop(2); play(2)",
                "ball(0, 3) = 1; ball(0, 4) = 1; ball(1, 3) = 2; ball(1, 4) = 1; play(1); ball(0, 1) = 2; ball(0, 3) = 1",
                "ball(0, 4) = 2");
        Script.holds("18: through one gate and through twelve", Script.chain(12),
                "lead(11, 0, 24); drop(2); play(1); ball(0, 3) = 12; ball(0, 4) = 4; play(1); ball(0, 3) = 11",
                "ball(1, 3) = 1; ball(1, 4) = 0; play(10); ball(0, 0) = 11; ball(0, 2) = 11; ball(0, 3) = 1; play(1)",
                "bin(4, 0) = 1; ball(0, 0) = NONE");
    }

    private static void ballsAreRefused() {
        Script.holds("18: Throws `IllegalArgumentException` if rank is negative, or what is not 0 to 4",
                "gate(1); drop(1); play(1); ball(-1, 0) ! argument; ball(min, 0) ! argument; ball(0, -1) ! argument",
                "ball(0, 5) ! argument; ball(0, min) ! argument; ball(0, max) ! argument; ball(-1, 5) ! argument",
                "ball(0, 0) = 0; ball(0, 4) = 0");
        Script.holds("18: Throws `IllegalArgumentException`, also if there are not so many balls",
                "ball(0, 5) ! argument; ball(0, -1) ! argument; ball(-1, 0) ! argument; ball(9, 5) ! argument");
    }

    private static void binsAreTold() {
        Script.holds("19: Returns a number of a bin.", THREE_GATES, "drop(5); play(20)", each("bin(0, ", 0, 0, 0),
                each("bin(1, ", 1, 1, 1), each("bin(2, ", 2, 2, 1), each("bin(3, ", 2, 2, 1), each("bin(4, ", 0, 0, 0),
                "empty(2) = 2; bin(2, 0) = 0; bin(2, 1) = 2; lead(0, 0, 24); lead(0, 1, 24); bin(4, 2) = 2");
        Script.holds("19: 1 how many balls came into it so far, more than there are",
                "gate(1); set(1, 1); drop(40); drop(5); play(50); bin(0, 0) = 0; bin(0, 1) = 45");
        Script.holds("19: 2 how many exits lead to it: none and all",
                "bin(0, 2) = 0; 12 * gate(1); bin(0, 2) = 24; bin(1, 2) = 0; bin(4, 2) = 0");
        Script.holds("19: `bin`: 0 to 4. Throws `IndexOutOfBoundsException` if there is no such bin",
                "bin(-1, 0) ! index; bin(5, 0) ! index; bin(20, 0) ! index; bin(24, 2) ! index; bin(min, 0) ! index",
                "bin(max, 0) ! index; bin(0, 0) = 0; bin(4, 0) = 0");
        Script.holds("19: Throws `IllegalArgumentException` if what is not 0 to 2",
                "bin(0, -1) ! argument; bin(0, 3) ! argument; bin(4, min) ! argument; bin(4, max) ! argument; bin(4, 2) = 0");
        Script.holds("19: the one that its throws clause lists first is thrown",
                "bin(5, 3) ! index; bin(-1, -1) ! index");
        Script.changeNothing("19: queries; nothing changes", THREE_GATES + "; drop(4); play(5)", "bin(0, 0)",
                "bin(4, 1)",
                "bin(2, 2)");
    }

    private static void numbersAreCounted() {
        Script.holds("20: Returns a number.", THREE_GATES,
                "set(0, 2); set(1, 2); drop(40); drop(3); play(29); append(103)",
                each("count(", 29, 3, 36, 1, 29, 2, 2, 14, 10, 31, 6, 1));
        Script.holds("20: all balls are somewhere", THREE_GATES, "drop(9); play(4); count(2) = 36; count(3) = 2",
                "bin(0, 0) = 0; bin(1, 0) = 0; bin(2, 0) = 1; bin(3, 0) = 1; bin(4, 0) = 0");
        Script.holds("20: Throws `IllegalArgumentException` if what is not 0 to 11",
                "count(-1) ! argument; count(12) ! argument; count(min) ! argument; count(max) ! argument; count(0) = 0",
                "count(11) = 0");
        Script.changeNothing("20: queries; nothing changes", THREE_GATES + "; drop(4); play(4); append(103)",
                "count(0)",
                "count(2)", "count(7)", "count(8)", "count(9)", "count(10)", "count(11)");
    }
}
