/** The boundary cases that "Terms" names, from "Gates and bins" to "Notes", and the 512 calls of an object. */
public final class TermsTest {
    public static void main(String[] args) {
        calls();
        gatesAndBins();
        exitsAndTargets();
        balls();
        ballsPassGates();
        beatsAndBalls();
        whenABallIsDropped();
        whenTheLiftBringsABall();
        fromWhichBinTheLiftBrings();
        notesThatAreKept();
        chords();
        Checks.end("TermsTest");
    }

    private static void calls() {
        String sentence = "An object is used for at most 512 calls after it has been made";
        Script.holds(sentence, "gate(1); 510 * flip(0); gateOf(0, 7) = 510");
        Script.holds(sentence, "511 * play(50); count(0) = 25550");
    }

    private static void gatesAndBins() {
        Script.holds("There are at most 12 gates, numbered from 0 in the order in which they were built.",
                "count(1) = 0; gate(10) = 0; gate(9) = 1; gate(8) = 2; gate(7) = 3; gate(6) = 4; gate(5) = 5",
                "gate(4) = 6; gate(3) = 7; gate(2) = 8; gate(1) = 9; gate(0) = 10; gate(30) = 11; count(1) = 12",
                "gate(5) ! state; gateOf(0, 1) = 10; gateOf(10, 1) = 0; gateOf(11, 1) = 30",
                "gateOf(12, 1) ! index; gateOf(-1, 1) ! index");
        Script.holds("A gate stands to the left (0) or to the right (1), at first to the left",
                "gate(4); gateOf(0, 0) = 0; flip(0) = 1; gateOf(0, 0) = 1; gate(4); gateOf(1, 0) = 0; flip(0) = 0",
                "gateOf(0, 0) = 0; gateOf(1, 0) = 0");
        Script.holds("at first to the left, also when an earlier gate of this number was undone",
                "gate(4); flip(0) = 1; undo(); undo(); count(1) = 0; gate(6) = 0; gateOf(0, 0) = 0; gateOf(0, 7) = 0");
        Script.holds("it has a bell with a pitch from 0 to 30",
                "gate(0) = 0; gate(30) = 1; gate(-1) ! argument; gate(31) ! argument; tune(0, 30) = 0; tune(1, 0) = 30",
                "tune(0, 31) ! argument; tune(0, -1) ! argument; gateOf(0, 1) = 30; gateOf(1, 1) = 0");
        Script.holds("There are 5 bins, 0 to 4, which are empty at first.",
                "bin(0, 0) = 0; bin(1, 0) = 0; bin(2, 0) = 0; bin(3, 0) = 0; bin(4, 0) = 0; bin(-1, 0) ! index",
                "bin(5, 0) ! index; empty(4) = 0; empty(-1) ! index; empty(5) ! index");
    }

    private static void exitsAndTargets() {
        Script.holds("and two exits, 0 (left) and 1 (right)",
                "gate(4); lead(0, -1, 21) ! index; lead(0, 2, 21) ! index; lead(0, 0, 21) = 20; lead(0, 1, 22) = 20",
                "gateOf(0, 2) = 21; gateOf(0, 3) = 22; drop(2); play(2); bin(1, 0) = 1; bin(2, 0) = 0",
                "play(1); bin(1, 0) = 1; bin(2, 0) = 1");
        Script.holds("A target is told as a number: 0 to 11 for a gate, 20 to 24 for the bins 0 to 4.",
                "12 * gate(1); lead(0, 0, 11) = 20; lead(0, 0, 12) ! index; lead(0, 0, 19) ! index",
                "lead(0, 0, 20) = 11; lead(0, 0, 24) = 20; lead(0, 0, 25) ! index; lead(0, 0, -1) ! index",
                "lead(1, 0, 0) ! argument; lead(1, 0, 21) = 20; lead(1, 1, 22) = 20; lead(2, 1, 23) = 20",
                "bin(0, 2) = 20; bin(1, 2) = 1; bin(2, 2) = 1; bin(3, 2) = 1; bin(4, 2) = 1");
        Script.holds("20 to 24 for the bins 0 to 4, when balls come into them",
                "gate(1); gate(1); lead(0, 0, 20); lead(0, 1, 1); lead(1, 0, 24); lead(1, 1, 23); drop(4); play(9)",
                "bin(0, 0) = 2; bin(1, 0) = 0; bin(2, 0) = 0; bin(3, 0) = 1; bin(4, 0) = 1");
        Script.holds("An exit that leads to a gate always leads to a gate with a greater number than its own gate.",
                "3 * gate(1); lead(1, 0, 0) ! argument; lead(1, 0, 1) ! argument; lead(1, 0, 2) = 20",
                "lead(2, 1, 2) ! argument; lead(2, 1, 1) ! argument; lead(0, 1, 0) ! argument; lead(0, 1, 1) = 20");
        Script.holds("When a gate is built, both its exits lead to the bin 0.",
                "gate(1); gateOf(0, 2) = 20; gateOf(0, 3) = 20; lead(0, 0, 23); gate(2); gateOf(1, 2) = 20",
                "gateOf(1, 3) = 20; bin(0, 2) = 3; 10 * gate(3); gateOf(11, 2) = 20; gateOf(11, 3) = 20");
        Script.holds("both its exits lead to the bin 0, also when an earlier gate of this number was undone",
                "gate(1); lead(0, 0, 23); lead(0, 1, 24); 3 * undo(); gate(2) = 0; gateOf(0, 2) = 20; gateOf(0, 3) = 20");
    }

    private static void balls() {
        Script.holds("There are 40 balls.",
                "gate(1); lead(0, 1, 21); drop(40); drop(1); play(39); count(2) = 1; count(7) = 39; play(1)",
                "count(2) = 0; count(7) = 40; count(4) = 1; play(5); count(7) = 40; count(4) = 1; count(3) = 0",
                "bin(0, 0) = 20; bin(1, 0) = 20");
        Script.holds("Each of them is in the stock (all of them at first), in the run, or in a bin.",
                "count(2) = 40; count(3) = 0; gate(1); drop(2); play(2); count(2) = 38; count(3) = 1; bin(0, 0) = 1",
                "empty(0) = 1; count(2) = 39; play(1); count(2) = 39; count(3) = 0; bin(0, 0) = 1");
        Script.holds("A ball in the run is at a gate.",
                "2 * gate(1); lead(0, 0, 1); drop(1); play(1); gateOf(0, 6) = 1; gateOf(1, 6) = 0; play(1)",
                "gateOf(0, 6) = 0; gateOf(1, 6) = 1; play(1); gateOf(1, 6) = 0; count(3) = 0");
        Script.holds("The balls in the run have an order: that in which they were dropped, the earliest first.",
                "3 * gate(1); lead(0, 0, 1); lead(0, 1, 1); lead(1, 0, 2); lead(1, 1, 2); drop(3); play(3)",
                "ball(0, 0) = 2; ball(0, 1) = 1; ball(1, 0) = 1; ball(1, 1) = 2; ball(2, 0) = 0; ball(2, 1) = 3",
                "ball(3, 1) = NONE; play(1); ball(0, 1) = 2; ball(1, 1) = 3; ball(2, 1) = NONE");
        Script.holds("the earliest first, also when a later one is in a bin before it",
                "3 * gate(1); lead(0, 0, 1); lead(0, 1, 24); lead(1, 0, 2); drop(3); play(3); bin(4, 0) = 1",
                "ball(0, 1) = 1; ball(0, 0) = 2; ball(1, 1) = 3; ball(1, 0) = 0; ball(2, 0) = NONE");
    }

    private static void ballsPassGates() {
        Script.holds("When a ball passes a gate, the bell of the gate rings, and the ball leaves through the exit to"
                + " which the gate stands; then the gate stands to the other side.",
                "gate(7); lead(0, 0, 21); lead(0, 1, 22); drop(3); play(1) = 0; gateOf(0, 0) = 0; play(1) = 1",
                "note(0, 2) = 7; bin(1, 0) = 1; bin(2, 0) = 0; gateOf(0, 0) = 1; play(1) = 1; bin(1, 0) = 1",
                "bin(2, 0) = 1; gateOf(0, 0) = 0; play(1) = 1; bin(1, 0) = 2; gateOf(0, 0) = 1; play(1) = 0",
                "gateOf(0, 0) = 1; gateOf(0, 4) = 2; gateOf(0, 5) = 1; gateOf(0, 7) = 0");
        Script.holds("If the exit leads to a gate, the ball is at this gate then",
                "12 * gate(1); lead(0, 0, 11); drop(1); play(2); ball(0, 0) = 11; count(3) = 1; gateOf(11, 6) = 1");
        Script.holds("if it leads to a bin, the ball is in this bin, and not in the run any more",
                "12 * gate(1); lead(0, 0, 11); lead(11, 0, 24); drop(1); play(3); bin(4, 0) = 1; count(3) = 0",
                "ball(0, 0) = NONE; gateOf(11, 6) = 0; play(5) = 0; bin(4, 0) = 1; count(2) = 39");
    }

    private static void beatsAndBalls() {
        Script.holds("The number of the beat, which is 0 at first, increases by 1.",
                "count(0) = 0; play(1); count(0) = 1; play(50); count(0) = 51; play(1); count(0) = 52");
        Script.holds("Each ball that is in the run at the beginning of the beat passes the gate at which it is",
                "gate(1); drop(2); play(1) = 0; ball(0, 2) = 0; play(1) = 1; ball(0, 2) = 0; ball(0, 1) = 2",
                "play(1) = 1; ball(0, 2) = NONE");
        Script.holds("one after the other in their order: two balls at one gate",
                "4 * gate(1); lead(0, 0, 1); lead(0, 1, 2); lead(1, 0, 2); lead(2, 0, 21); lead(2, 1, 3); drop(2)",
                "play(3); gateOf(2, 6) = 2; ball(0, 0) = 2; ball(0, 1) = 1; ball(1, 0) = 2; ball(1, 1) = 2",
                "note(1, 1) = 1; note(0, 1) = 0; play(1) = 2; bin(1, 0) = 1; ball(0, 0) = 3; ball(0, 1) = 2",
                "ball(1, 0) = NONE; gateOf(2, 0) = 0; gateOf(2, 4) = 1; gateOf(2, 5) = 1");
        Script.holds("(a ball passes one gate in a beat)",
                "3 * gate(1); lead(0, 0, 1); lead(1, 0, 2); drop(1); play(1) = 0; ball(0, 0) = 0; play(1) = 1",
                "ball(0, 0) = 1; ball(0, 2) = 1; play(1) = 1; ball(0, 0) = 2; ball(0, 2) = 2; play(1) = 1",
                "ball(0, 0) = NONE; bin(0, 0) = 1");
        Script.holds("Each ball that is in the run: at most one at each of 12 gates of a chain",
                Script.straightChain(12),
                "drop(40); play(12); count(3) = 12; ball(0, 0) = 11; ball(11, 0) = 0; ball(12, 0) = NONE; count(9) = 66",
                "play(1) = 12; count(3) = 12; ball(0, 1) = 2; bin(0, 0) = 1; note(0, 1) = 0; note(11, 1) = 11");
    }

    private static void whenABallIsDropped() {
        String divisible = "If the number of the beat is divisible by the setting 0";
        Script.holds(divisible, "gate(1); drop(3); play(1); count(7) = 1; play(1); count(7) = 2");
        Script.holds(divisible,
                "gate(1); set(0, 9); drop(3); play(8); count(7) = 0; play(1); count(7) = 1; ball(0, 1) = 9; play(8)",
                "count(7) = 1; play(1); count(7) = 2; ball(0, 1) = 18");
        Script.holds(divisible + ", not the beats since it was set",
                "gate(1); drop(9); play(5); count(7) = 5; set(0, 4); play(2); count(7) = 5; play(1); count(7) = 6",
                "set(0, 3); play(1); count(7) = 7; play(2); count(7) = 7; play(1); count(7) = 8");
        Script.holds("balls are to be dropped",
                "gate(1); play(3); count(7) = 0; drop(1); play(1); count(7) = 1; count(4) = 0; play(3); count(7) = 1",
                "count(4) = 0; count(2) = 39");
        Script.holds("the stock is not empty",
                "gate(1); lead(0, 1, 21); drop(40); drop(2); play(45); count(2) = 0; count(4) = 2; count(7) = 40",
                "empty(1) = 20; play(1); count(7) = 41; count(4) = 1; count(2) = 19");
        Script.holds("the stock is not empty: one ball is enough",
                "gate(1); lead(0, 1, 21); drop(40); drop(2); play(45); set(1, 20); play(1); count(2) = 1; count(7) = 40",
                "play(1); count(7) = 41; count(4) = 1; count(2) = 1");
        Script.holds("and there is a gate",
                "drop(2); play(3) = 0; count(7) = 0; count(4) = 2; count(2) = 40; gate(3); play(1); count(7) = 1",
                "count(4) = 1; ball(0, 1) = 4");
        Script.holds("one ball is dropped. It is at the gate 0 then, and one ball fewer is to be dropped.",
                "2 * gate(1); drop(40); play(1); count(3) = 1; ball(0, 0) = 0; ball(1, 0) = NONE; count(4) = 39",
                "count(2) = 39; count(7) = 1");
    }

    private static void whenTheLiftBringsABall() {
        String least = "If the greatest number of balls in a bin is at least the setting 1";
        Script.holds(least, "gate(1); set(1, 3); drop(3); play(3); bin(0, 0) = 2; count(8) = 0; play(1); bin(0, 0) = 2",
                "bin(0, 1) = 3; count(8) = 1; count(2) = 38; play(3); count(8) = 1; bin(0, 0) = 2");
        Script.holds(least + ": more than it",
                "gate(1); drop(5); play(10); bin(0, 0) = 5; count(8) = 0; set(1, 2); play(1); bin(0, 0) = 4",
                "count(8) = 1; play(3); bin(0, 0) = 1; count(8) = 4; play(5); bin(0, 0) = 1; count(8) = 4");
        Script.holds(least + ": the level 1",
                "gate(1); set(1, 1); drop(1); play(2); bin(0, 0) = 0; bin(0, 1) = 1; count(8) = 1; count(2) = 40",
                "play(5); count(8) = 1; count(2) = 40; bin(0, 0) = 0");
        Script.holds(least + ": the level 40",
                "gate(1); drop(39); play(45); bin(0, 0) = 39; count(8) = 0; drop(1); play(1); bin(0, 0) = 39",
                "count(8) = 0; count(2) = 0; play(1); bin(0, 0) = 39; count(8) = 1; bin(0, 1) = 40; count(2) = 1");
        Script.holds("the lift brings ... back to the stock after the drop of the beat",
                "gate(1); drop(40); drop(1); play(41); count(8) = 1; count(7) = 40; count(4) = 1; count(2) = 1; play(1)",
                "count(7) = 41; count(4) = 0; count(2) = 0; ball(0, 1) = 42");
        Script.holds("Settings: 0 the gap, 1 to 9, at first 1; 1 the level of the lift, 1 to 40, at first 40.",
                "count(5) = 1; count(6) = 40; set(0, 9) = 1; set(0, 10) ! argument; set(0, 1) = 9; set(0, 0) ! argument",
                "set(1, 1) = 40; set(1, 0) ! argument; set(1, 40) = 1; set(1, 41) ! argument; set(-1, 1) ! index",
                "set(2, 1) ! index; count(5) = 1; count(6) = 40");
    }

    private static void fromWhichBinTheLiftBrings() {
        Script.holds("the lift brings one ball of this bin",
                "gate(1); lead(0, 0, 23); lead(0, 1, 21); drop(5); play(10); bin(3, 0) = 3; bin(1, 0) = 2; set(1, 2)",
                "play(1); bin(3, 0) = 2; bin(1, 0) = 2; count(8) = 1; play(1); bin(3, 0) = 2; bin(1, 0) = 1",
                "count(8) = 2; play(1); bin(3, 0) = 1; bin(1, 0) = 1; count(8) = 3; play(4); count(8) = 3",
                "count(2) = 38; bin(3, 1) = 3; bin(1, 1) = 2");
        String lowest = "of several bins with this number, of the one with the lowest number";
        Script.holds(lowest, "gate(1); lead(0, 0, 24); drop(2); play(4); bin(4, 0) = 1; bin(0, 0) = 1; set(1, 1)",
                "play(1); bin(0, 0) = 0; bin(4, 0) = 1; play(1); bin(4, 0) = 0; count(2) = 40");
        Script.holds(lowest, "gate(1); lead(0, 0, 24); lead(0, 1, 23); drop(2); play(4); set(1, 1); play(1)",
                "bin(3, 0) = 0; bin(4, 0) = 1; play(1); bin(4, 0) = 0; count(2) = 40");
        Script.holds("the greatest number of balls, also in the last bin",
                "gate(1); lead(0, 0, 24); lead(0, 1, 20); drop(3); play(5); bin(4, 0) = 2; bin(0, 0) = 1; set(1, 1)",
                "play(1); bin(4, 0) = 1; bin(0, 0) = 1; play(1); bin(4, 0) = 1; bin(0, 0) = 0");
    }

    private static void notesThatAreKept() {
        Script.holds("Each ring is a note with the beat, the gate and the pitch that the bell has then.",
                "gate(7); drop(2); play(2); tune(0, 30) = 7; note(0, 0) = 2; note(0, 1) = 0; note(0, 2) = 7; play(1)",
                "note(0, 0) = 3; note(0, 1) = 0; note(0, 2) = 30; note(1, 2) = 7; chord(2) = 128",
                "chord(3) = 1073741824");
        Script.holds("The latest 60 notes are kept, in their order.",
                "gate(0); set(1, 1); drop(40); drop(40); play(50); play(10); notes(0) = 59; count(9) = 59",
                "note(58, 0) = 2; note(59, 0) = NONE; tune(0, 7); play(1); notes(0) = 60; count(9) = 60",
                "note(0, 0) = 61; note(59, 0) = 2; note(60, 0) = NONE; tune(0, 9); play(1); notes(0) = 60",
                "count(9) = 61; note(0, 0) = 62; note(0, 2) = 9; note(1, 0) = 61; note(1, 2) = 7; note(2, 2) = 0",
                "note(59, 0) = 3; note(60, 0) = NONE; chord(2) = 0; chord(3) = 1; chord(62) = 512");
        Script.holds("The latest 60 notes are kept: twice as many and one more ring",
                "gate(0); set(1, 1); 4 * drop(40); 2 * play(50); play(21); count(9) = 120; note(59, 0) = 62; play(1)",
                "count(9) = 121; notes(0) = 60; note(59, 0) = 63; note(0, 0) = 122; note(30, 0) = 92");
    }

    private static void chords() {
        Script.holds("A chord is the set of the pitches ... as a bit mask (bit p for the pitch p).",
                "gate(0); gate(30); lead(0, 0, 1); lead(0, 1, 1); drop(2); play(4); chord(2) = 1",
                "chord(3) = 1073741825; chord(4) = 1073741824; chord(1) = 0; chord(5) = 0");
        Script.holds("A chord is the set of the pitches: one pitch that rings twice",
                "2 * gate(3); lead(0, 0, 1); lead(0, 1, 1); drop(2); play(3); notes(0) = 3; chord(3) = 8");
        Script.holds("of the notes that are kept of one beat",
                "gate(5); gate(9); lead(0, 0, 1); lead(0, 1, 1); drop(31); play(33); count(9) = 62; note(59, 0) = 3",
                "note(59, 2) = 5; chord(2) = 0; chord(3) = 32; chord(4) = 544; chord(33) = 512");
    }
}
