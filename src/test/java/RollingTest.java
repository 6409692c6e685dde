/** Promises 25 to 30: rolled, sideAfter, binOf, firstInto, period, way; and "Rolling out" in "Terms". */
public final class RollingTest {
    /** The gate 0 lets out to the gates 1 and 2, the gate 1 to the bin 1 and the gate 2, that to the bins 2 and 3. */
    private static final String THREE_GATES = "gate(1); gate(2); gate(3); lead(0, 0, 1); lead(0, 1, 2); lead(1, 0, 21)"
            + "; lead(1, 1, 2); lead(2, 0, 22); lead(2, 1, 23)";

    public static void main(String[] args) {
        onlyTheStandingGatesMatter();
        ballsAreRolledInBothWays();
        rolledIsRefused();
        sidesAreForetold();
        binsAreForetold();
        theFirstBallIsFound();
        thePeriodIsFound();
        theWaysAreMeasured();
        nothingChanges();
        Checks.end("RollingTest");
    }

    private static String bothWays(int count, int target, int due) {
        String call = "rolled(" + count + ", " + target + ", ";
        return call + "0) = " + due + "; " + call + "1) = " + due;
    }

    private static void onlyTheStandingGatesMatter() {
        String gates = "gate(1); gate(2); lead(0, 0, 1); lead(0, 1, 22); lead(1, 0, 23); lead(1, 1, 24)";
        String asTheyStand = String.join("; ", bothWays(3, 0, 3), bothWays(3, 1, 2), bothWays(3, 22, 1),
                bothWays(3, 23, 1), bothWays(3, 24, 1), bothWays(3, 20, 0),
                "sideAfter(3, 0) = 1; sideAfter(3, 1) = 0; binOf(0) = 3; binOf(1) = 2; binOf(2) = 4; binOf(3) = 2",
                "binOf(4) = 3; firstInto(3) = 0; firstInto(2) = 1; firstInto(4) = 2; firstInto(0) = NONE; period() = 4",
                "way(true) = 2; way(false) = 1");
        Script.holds("The gates as they stand decide", gates, asTheyStand);
        Script.holds("The gates as they stand decide: after a flip", gates, "flip(0)", bothWays(3, 22, 2),
                "sideAfter(3, 0) = 0; binOf(0) = 2; binOf(1) = 3; firstInto(3) = 1; firstInto(4) = 3; period() = 4");
        String not = " do not matter";
        Script.holds("balls in the run" + not, gates, "drop(1); play(1); count(3) = 1", asTheyStand);
        Script.holds("bells" + not, gates, "tune(0, 30); tune(1, 0)", asTheyStand);
        Script.holds("beats" + not, gates, "set(0, 9); play(50)", asTheyStand);
        Script.holds("the stock" + not, gates, "drop(40); play(50); count(2) = 0; count(3) = 0", asTheyStand);
        Script.holds("the lift" + not, gates, "set(1, 1)", asTheyStand);
        Script.holds("the balls that are to be dropped" + not, gates, "5 * drop(40)", asTheyStand);
    }

    private static void ballsAreRolledInBothWays() {
        Script.holds("25: Returns how many balls would come to a gate or into a bin if balls were rolled out",
                THREE_GATES,
                bothWays(1, 21, 1), bothWays(7, 0, 7), bothWays(7, 1, 4), bothWays(7, 2, 5), bothWays(7, 20, 0),
                bothWays(7, 21, 2), bothWays(7, 22, 3), bothWays(7, 23, 2), bothWays(7, 24, 0));
        Script.holds("25: (n + 1) / 2 leave through the exit to which it stands, and n / 2 through the other one",
                THREE_GATES, "flip(0)", bothWays(1, 1, 0), bothWays(1, 2, 1), bothWays(7, 1, 3), bothWays(7, 2, 5),
                "flip(2)", bothWays(1, 22, 0), bothWays(1, 23, 1), bothWays(7, 22, 2), bothWays(7, 23, 3));
        Script.holds("25: `count`: 0 to 1000", THREE_GATES, bothWays(0, 0, 0), bothWays(0, 2, 0), bothWays(0, 21, 0),
                bothWays(1000, 0, 1000), bothWays(1000, 1, 500), bothWays(1000, 2, 750), bothWays(1000, 21, 250),
                bothWays(1000, 22, 375), bothWays(1000, 23, 375), bothWays(999, 22, 375), bothWays(999, 23, 374));
        Script.holds("25: through twelve gates", Script.chain(12), "lead(11, 0, 23); lead(11, 1, 24)", bothWays(1000,
                3, 125),
                bothWays(1000, 4, 63), bothWays(1000, 10, 1), bothWays(1000, 11, 1), bothWays(1000, 20, 999),
                bothWays(1000, 23, 1), bothWays(1000, 24, 0), bothWays(1, 11, 1));
        Script.holds("25: one gate", "gate(1); lead(0, 1, 24)", bothWays(0, 0, 0), bothWays(1, 0, 1), bothWays(1, 20,
                1),
                bothWays(1, 24, 0), bothWays(1000, 0, 1000), bothWays(999, 20, 500), bothWays(999, 24, 499),
                "binOf(0) = 0; binOf(1) = 4; binOf(999) = 4; firstInto(4) = 1; period() = 2; sideAfter(999, 0) = 1");
        Script.holds("25: `target`: a gate that no ball reaches", "2 * gate(1)", bothWays(10, 1, 0), bothWays(10, 20,
                10));
        for (int target = 20; target <= 24; target++) {
            Script.holds("25: (none into a bin if there are no gates)", bothWays(0, target, 0), bothWays(1, target, 0),
                    bothWays(1000, target, 0));
        }
    }

    private static void rolledIsRefused() {
        String noSuch = "25: Throws `IndexOutOfBoundsException` if there is no such gate or bin";
        Script.holds(noSuch, "rolled(1, 0, 0) ! index; rolled(1, 19, 0) ! index; rolled(1, 25, 1) ! index", THREE_GATES,
                "rolled(1, -1, 0) ! index; rolled(1, 3, 0) ! index; rolled(1, 3, 1) ! index; rolled(1, 11, 0) ! index",
                "rolled(1, 12, 0) ! index; rolled(1, 19, 1) ! index; rolled(1, 25, 0) ! index; rolled(1, min, 0) ! index",
                "rolled(1, max, 1) ! index; rolled(1, 2, 0) = 0; rolled(1, 20, 0) = 0; rolled(1, 24, 0) = 0");
        String range = "25: Throws `IllegalArgumentException` if count is out of range, or way is not 0 or 1";
        Script.holds(range, THREE_GATES, "rolled(-1, 0, 0) ! argument; rolled(1001, 0, 1) ! argument",
                "rolled(-1, 20, 1) ! argument; rolled(1001, 20, 0) ! argument; rolled(min, 0, 0) ! argument",
                "rolled(max, 0, 1) ! argument; rolled(1, 0, -1) ! argument; rolled(1, 0, 2) ! argument",
                "rolled(1, 20, min) ! argument; rolled(1, 20, max) ! argument; rolled(1001, 0, 2) ! argument");
        Script.holds(range + ", also without gates", "rolled(-1, 20, 0) ! argument; rolled(1001, 24, 0) ! argument",
                "rolled(0, 20, 2) ! argument; rolled(0, 20, -1) ! argument");
        Script.holds("25: the one that its throws clause lists first is thrown", "rolled(1001, 0, 2) ! index",
                THREE_GATES,
                "rolled(1001, 3, 0) ! index; rolled(-1, 25, 1) ! index; rolled(1, 19, 2) ! index; rolled(-1, -1, -1) ! index");
    }

    private static void sidesAreForetold() {
        int[][] due = {{0, 0, 0}, {1, 1, 0}, {0, 1, 1}, {1, 0, 0}, {0, 0, 1}};
        for (int count = 0; count < due.length; count++) {
            for (int gate = 0; gate < 3; gate++) {
                Script.holds("26: Returns the side to which a gate would stand after balls were rolled out.",
                        THREE_GATES,
                        "sideAfter(" + count + ", " + gate + ") = " + due[count][gate]);
            }
        }
        Script.holds("26: `count`: 0 to 1000", THREE_GATES,
                "sideAfter(0, 2) = 0; sideAfter(999, 0) = 1; sideAfter(999, 2) = 1",
                "sideAfter(1000, 0) = 0; sideAfter(1000, 2) = 0; flip(1); sideAfter(0, 1) = 1; sideAfter(1, 1) = 0",
                "sideAfter(1000, 1) = 1");
        Script.holds("26: `gate`: its number, the last of 12", Script.chain(12),
                "sideAfter(1, 11) = 1; sideAfter(1000, 11) = 1",
                "sideAfter(1000, 3) = 1; sideAfter(1000, 4) = 1; sideAfter(1000, 5) = 0");
        Script.holds("26: Throws `IndexOutOfBoundsException` if there is no such gate", "sideAfter(0, 0) ! index",
                THREE_GATES, "sideAfter(1, -1) ! index; sideAfter(1, 3) ! index; sideAfter(1, 20) ! index",
                "sideAfter(1, min) ! index; sideAfter(1, max) ! index; sideAfter(1, 2) = 0");
        Script.holds("26: Throws `IllegalArgumentException` if count is out of range", THREE_GATES,
                "sideAfter(-1, 0) ! argument; sideAfter(1001, 0) ! argument; sideAfter(min, 2) ! argument",
                "sideAfter(max, 2) ! argument; sideAfter(0, 0) = 0");
        Script.holds("26: the one that its throws clause lists first is thrown", "sideAfter(-1, 0) ! index",
                THREE_GATES,
                "sideAfter(-1, 3) ! index; sideAfter(1001, -1) ! index; sideAfter(1001, 3) ! index");
    }

    private static void binsAreForetold() {
        Script.holds("27: `index`: 0 for the first ball, and so on", THREE_GATES,
                "binOf(0) = 1; binOf(1) = 2; binOf(2) = 3",
                "binOf(3) = 2; binOf(4) = 1; binOf(5) = 3; binOf(6) = 2; binOf(7) = 3; binOf(8) = 1");
        Script.holds("27: up to 999", THREE_GATES, "binOf(998) = 2; binOf(999) = 3; binOf(1000) ! argument");
        Script.holds("27: NONE if there are no gates", "binOf(0) = NONE; binOf(999) = NONE; gate(1); binOf(0) = 0");
        Script.holds("27: Throws `IllegalArgumentException` if index is out of range", "binOf(-1) ! argument",
                "binOf(1000) ! argument", THREE_GATES,
                "binOf(-1) ! argument; binOf(1000) ! argument; binOf(min) ! argument",
                "binOf(max) ! argument; binOf(0) = 1");
    }

    private static void theFirstBallIsFound() {
        Script.holds("28: Finds the first ball that would come into a bin. `bin`: 0 to 4", THREE_GATES,
                "firstInto(0) = NONE; firstInto(1) = 0; firstInto(2) = 1; firstInto(3) = 2; firstInto(4) = NONE");
        Script.holds("28: its index, 0 for the first ball, up to 4095", Script.chain(12),
                "lead(11, 0, 23); lead(11, 1, 24); firstInto(3) = 0; firstInto(4) = 2048; firstInto(0) = 1; flip(0); flip(1)",
                "flip(2); flip(3); flip(4); flip(5); flip(6); flip(7); flip(8); flip(9); flip(10); firstInto(3) = 2047",
                "firstInto(4) = 4095; firstInto(0) = 0; flip(11); firstInto(4) = 2047; firstInto(3) = 4095");
        Script.holds("28: NONE if none of these would come into it", Script.chain(12), "firstInto(0) = 0",
                "firstInto(1) = NONE; firstInto(4) = NONE; lead(11, 0, 21); firstInto(1) = 0; lead(11, 0, 24)",
                "firstInto(1) = NONE; firstInto(4) = 0");
        Script.holds("28: NONE without gates", "firstInto(0) = NONE; firstInto(4) = NONE; gate(1); firstInto(0) = 0");
        Script.holds("28: Throws `IndexOutOfBoundsException` if there is no such bin", "firstInto(-1) ! index",
                "firstInto(5) ! index", THREE_GATES,
                "firstInto(-1) ! index; firstInto(5) ! index; firstInto(20) ! index",
                "firstInto(24) ! index; firstInto(min) ! index; firstInto(max) ! index");
    }

    private static void thePeriodIsFound() {
        int due = 1;
        for (int size = 1; size <= 12; size++) {
            due *= 2;
            Script.holds("29: Returns the least number, 1 to 4096", Script.chain(size), "period() = " + due
                    + "; flip(0); period() = "
                    + due);
        }
        Script.holds("29: all gates stand to the same sides as now", THREE_GATES,
                "period() = 8; flip(1); period() = 8");
        Script.holds("29: all gates, also those that no ball reaches", "3 * gate(1); flip(2); period() = 2");
        Script.holds("29: the same sides though both exits lead to one gate",
                "2 * gate(1); lead(0, 0, 1); lead(0, 1, 1); period() = 2");
        Script.holds("29: NONE if there are no gates",
                "period() = NONE; gate(1); period() = 2; undo(); period() = NONE");
    }

    private static void theWaysAreMeasured() {
        Script.holds("30: how many gates a ball passes at most on its way from the gate 0 into a bin, or at least",
                "4 * gate(1); lead(0, 0, 1); way(true) = 2; way(false) = 1; lead(0, 1, 3); way(false) = 2; lead(1, 0, 2)",
                "lead(1, 1, 2); lead(2, 1, 3); way(true) = 4; way(false) = 2; lead(2, 1, 20); way(true) = 3");
        Script.holds("30: however the gates stand",
                "2 * gate(1); lead(0, 0, 1); way(true) = 2; way(false) = 1; flip(0)",
                "way(true) = 2; way(false) = 1");
        Script.holds("30: one gate and twelve", "gate(1); way(true) = 1; way(false) = 1");
        Script.holds("30: one gate and twelve", Script.chain(12), "way(true) = 12; way(false) = 1");
        Script.holds("30: at least twelve too", Script.straightChain(12), "way(false) = 12; way(true) = 12");
        Script.holds("30: 0 if there are no gates", "way(true) = 0; way(false) = 0; gate(1); way(false) = 1; undo()",
                "way(true) = 0; way(false) = 0");
    }

    private static void nothingChanges() {
        Script.changeNothing("rolling out; nothing changes", THREE_GATES + "; flip(1); drop(9); play(5)",
                "rolled(999, 1, 0)",
                "rolled(999, 21, 1)", "sideAfter(1, 0)", "sideAfter(999, 2)", "binOf(0)", "binOf(999)", "firstInto(3)",
                "firstInto(4) = NONE", "period()", "way(true)", "way(false)");
    }
}
