/** Promises 7 to 9: drop, play, empty. What a beat does is in TermsTest too. */
public final class PlayingTest {
    public static void main(String[] args) {
        dropsAreCounted();
        dropsAreRefused();
        aBallRolls();
        beatsPass();
        binsAreEmptied();
        Checks.end("PlayingTest");
    }

    private static void dropsAreCounted() {
        Script.holds("7: Lets more balls be dropped. Returns how many balls are to be dropped then.",
                "drop(3) = 3; drop(4) = 7; count(4) = 7; count(7) = 0; gate(1); play(2); count(4) = 5; drop(1) = 6");
        Script.holds("7: `count`: 1 to 40", "drop(1) = 1; drop(40) = 41; count(4) = 41");
        Script.isUndoable("drop(40)");
        Script.isUndoable("gate(1); drop(3); play(2)", "drop(1)");
    }

    private static void dropsAreRefused() {
        Script.holds("7: Throws `IllegalArgumentException` if count is out of range",
                "drop(0) ! argument; drop(41) ! argument; drop(-1) ! argument; drop(min) ! argument; drop(max) ! argument");
        String more = "7: Throws `IllegalStateException` if more than 200 balls would be to be dropped";
        Script.holds(more, "4 * drop(40); drop(40) = 200; drop(1) ! state; drop(40) ! state; count(4) = 200");
        Script.holds(more, "4 * drop(40); drop(1) = 161; drop(40) ! state; drop(39) = 200; drop(1) ! state");
        Script.holds(more, "4 * drop(40); drop(39) = 199; drop(2) ! state; drop(1) = 200; gate(1); play(1)",
                "drop(2) ! state; drop(1) = 200; count(7) = 1");
        Script.holds("7: the one that its throws clause lists first is thrown",
                "5 * drop(40); drop(0) ! argument; drop(41) ! argument; drop(-1) ! argument; drop(max) ! argument");
    }

    private static void aBallRolls() {
        Script.holds("8: a ball rolls from gate to gate",
                "gate(5); gate(9); lead(0, 0, 1); lead(1, 0, 23); drop(1); play(1) = 0; count(2) = 39; count(3) = 1",
                "count(4) = 0; count(7) = 1; ball(0, 0) = 0; play(1) = 1; ball(0, 0) = 1; gateOf(0, 0) = 1",
                "gateOf(0, 4) = 1; play(1) = 1; count(3) = 0; bin(3, 0) = 1; bin(3, 1) = 1; count(2) = 39; play(50) = 0",
                "count(0) = 53; note(0, 0) = 3; note(0, 2) = 9");
    }

    private static void beatsPass() {
        Script.holds("8: `beats`: 1 to 50", "play(1) = 0; count(0) = 1; play(50) = 0; count(0) = 51");
        Script.holds("8: Returns how many notes ring in them.",
                "play(50) = 0; gate(1); drop(40); play(1) = 0; play(1) = 1; play(2) = 2; play(50) = 37; play(50) = 0");
        Script.holds("8: Returns how many notes ring in them, also more than are kept",
                "3 * gate(1); lead(0, 0, 1); lead(0, 1, 1); lead(1, 0, 2); lead(1, 1, 2); drop(40); play(50) = 120",
                "notes(0) = 60; count(9) = 120");
        Script.holds("8: Throws `IllegalArgumentException` if beats is out of range",
                "gate(1); drop(3); play(0) ! argument; play(51) ! argument; play(-1) ! argument; play(min) ! argument",
                "play(max) ! argument; count(0) = 0");
        Script.isUndoable("play(1)");
        Script.isUndoable("gate(1); drop(3)", "play(50)");
        Script.isUndoable("3 * gate(1); lead(0, 0, 1); lead(1, 0, 2); set(1, 2); drop(40); play(45)", "play(50)");
    }

    private static void binsAreEmptied() {
        Script.holds("9: Brings all balls of a bin back to the stock. Returns how many balls it had.",
                "gate(5); lead(0, 1, 24); drop(3); play(5); empty(0) = 2; bin(0, 0) = 0; bin(0, 1) = 2; bin(4, 0) = 1",
                "count(2) = 39; count(8) = 0; empty(0) = 0; count(2) = 39; empty(4) = 1; count(2) = 40; empty(1) = 0");
        Script.holds("9: all balls, up to 39, while one is in the run",
                "gate(5); drop(40); play(40); bin(0, 0) = 39; count(2) = 0; empty(0) = 39; count(2) = 39; count(3) = 1");
        Script.holds("9: `bin`: 0 to 4. Throws `IndexOutOfBoundsException` if there is no such bin",
                "empty(-1) ! index; empty(5) ! index; empty(20) ! index; empty(24) ! index; empty(min) ! index",
                "empty(max) ! index; empty(0) = 0; empty(4) = 0");
        Script.isUndoable("gate(5); drop(3); play(5)", "empty(0)");
        Script.isUndoable("gate(5); drop(3); play(5)", "empty(4)");
    }
}
