/** Promises 21 to 24: note, chord, notes, meanPitch. */
public final class NotesTest {
    /** Two gates, one behind the other; each ball rings the pitches 5 and 9 in two beats. */
    private static final String TWO_BELLS = "gate(5); gate(9); lead(0, 0, 1); lead(0, 1, 1)";
    /** 59 notes of the pitch 0, one in each of the beats 2 to 60; one more comes with each beat. */
    private static final String FIFTY_NINE = "gate(0); set(1, 1); drop(40); drop(40); play(50); play(10)";

    public static void main(String[] args) {
        notesAreTold();
        notesAreRefused();
        chordsAreTold();
        numbersWithoutNotes();
        pitchesAreCounted();
        chordsAreCounted();
        stepsAreCounted();
        theMeanPitchIsTold();
        nothingChanges();
        Checks.end("NotesTest");
    }

    private static void notesAreTold() {
        Script.holds("21: `index`: 0 for the latest one, 1 for the one before, and so on", TWO_BELLS,
                "drop(2); play(4)",
                "note(0, 0) = 4; note(0, 1) = 1; note(0, 2) = 9; note(1, 0) = 3; note(1, 1) = 0; note(1, 2) = 5",
                "note(2, 0) = 3; note(2, 1) = 1; note(2, 2) = 9; note(3, 0) = 2; note(3, 1) = 0; note(3, 2) = 5");
        String none = "21: NONE if not so many are kept";
        Script.holds(none, "note(0, 0) = NONE; note(0, 2) = NONE", TWO_BELLS, "drop(1); play(2); note(0, 0) = 2",
                "note(1, 0) = NONE; note(1, 1) = NONE; note(1, 2) = NONE; note(59, 0) = NONE; note(max, 2) = NONE");
        Script.holds(none + ": 60 and one more", FIFTY_NINE,
                "note(58, 0) = 2; note(59, 0) = NONE; play(1); note(59, 0) = 2",
                "note(60, 0) = NONE; play(1); note(59, 0) = 3; note(60, 0) = NONE; note(61, 0) = NONE; note(0, 0) = 62");
    }

    private static void notesAreRefused() {
        Script.holds("21: Throws `IllegalArgumentException` if index is negative, or what is not 0 to 2", TWO_BELLS,
                "drop(1); play(2); note(-1, 0) ! argument; note(min, 0) ! argument; note(0, -1) ! argument",
                "note(0, 3) ! argument; note(0, min) ! argument; note(0, max) ! argument; note(-1, 3) ! argument",
                "note(0, 0) = 2; note(0, 2) = 5");
        Script.holds("21: Throws `IllegalArgumentException`, also if not so many are kept",
                "note(0, 3) ! argument; note(0, -1) ! argument; note(-1, 0) ! argument; note(60, 3) ! argument");
    }

    private static void chordsAreTold() {
        Script.holds("22: Returns the chord of a beat.", "gate(3); gate(3); gate(8); lead(0, 0, 1); lead(0, 1, 1)",
                "lead(1, 0, 2); lead(1, 1, 2); drop(3); play(6); chord(2) = 8; chord(3) = 8; chord(4) = 264",
                "chord(5) = 264; chord(6) = 256");
        Script.holds("22: 0 if no note of this beat is kept",
                "chord(0) = 0; chord(1) = 0; chord(max) = 0; gate(0); drop(2)",
                "play(1); chord(0) = 0; chord(1) = 0; play(3); chord(1) = 0; chord(2) = 1; chord(3) = 1; chord(4) = 0",
                "chord(5) = 0; chord(max) = 0");
        Script.holds("22: 0 if no note of this beat is kept: 60 notes and one more", FIFTY_NINE,
                "play(1); chord(2) = 1",
                "chord(61) = 1; play(1); chord(2) = 0; chord(3) = 1; chord(62) = 1");
        Script.holds("22: a note keeps the pitch that the bell had then", TWO_BELLS, "drop(2); play(3); tune(1, 30)",
                "chord(3) = 544; play(1); chord(4) = 1073741824; chord(3) = 544");
        Script.holds("22: `beat`: 0 or more. Throws `IllegalArgumentException` if beat is negative",
                "chord(-1) ! argument; chord(min) ! argument; chord(0) = 0");
    }

    private static void numbersWithoutNotes() {
        String sentence = "23: NONE for 2 if none are kept.";
        Script.holds(sentence, "notes(0) = 0; notes(1) = 0; notes(2) = NONE; notes(3) = 0; notes(4) = 0; notes(5) = 0",
                "notes(6) = 0");
        Script.holds(sentence, TWO_BELLS,
                "drop(1); play(1); notes(2) = NONE; notes(0) = 0; play(1); notes(2) = 5; undo()",
                "notes(2) = NONE; notes(0) = 0");
        Script.holds("23: one note", TWO_BELLS,
                "drop(1); play(2); notes(0) = 1; notes(1) = 1; notes(2) = 5; notes(3) = 1",
                "notes(4) = 1; notes(5) = 0; notes(6) = 0");
        Script.holds("23: Throws `IllegalArgumentException` if what is not 0 to 6",
                "notes(-1) ! argument; notes(7) ! argument; notes(min) ! argument; notes(max) ! argument; notes(6) = 0");
    }

    private static void pitchesAreCounted() {
        Script.holds("23: 0 how many there are, at most 60", FIFTY_NINE,
                "notes(0) = 59; play(1); notes(0) = 60; play(1)",
                "notes(0) = 60; play(1); notes(0) = 60");
        Script.holds("23: 1 how many different pitches they have", "gate(30); gate(0); lead(0, 0, 1); drop(2); play(5)",
                "notes(0) = 3; notes(1) = 2; tune(0, 15); drop(1); play(3); notes(1) = 3");
        Script.holds("23: 1 of the notes that are kept", FIFTY_NINE, "play(1); tune(0, 4); notes(1) = 1; play(1)",
                "notes(1) = 2; count(4) = 18; drop(40); drop(40); play(50); notes(1) = 2; play(8); notes(1) = 2; play(1)",
                "notes(1) = 1; notes(2) = 4");
        Script.holds("23: 2 the pitch that most of them have (of several the lowest)",
                "gate(30); gate(2); lead(0, 0, 1)",
                "drop(1); play(5); notes(2) = 2; drop(2); play(5); notes(2) = 30");
        for (int pitch = 0; pitch <= 30; pitch++) {
            Script.holds("23: 2 the pitch that most of them have: each pitch", "gate(" + pitch + "); drop(1); play(2)",
                    "notes(2) = " + pitch + "; notes(1) = 1; notes(4) = 1; chord(2) = " + (1 << pitch),
                    "meanPitch() = " + (float) pitch);
        }
        Script.holds("23: 2 of several the lowest: 0 and 30, 30 first and last",
                "gate(30); drop(1); play(2); tune(0, 0)",
                "drop(2); play(3); tune(0, 30); drop(1); play(2); notes(0) = 4; notes(2) = 0; drop(1); play(2)",
                "notes(2) = 30");
    }

    private static void chordsAreCounted() {
        Script.holds("23: 3 how many different chords there are, 4 the greatest number of pitches in a chord",
                "gate(3); gate(3); gate(8); lead(0, 0, 1); lead(0, 1, 1); lead(1, 0, 2); lead(1, 1, 2); drop(3); play(6)",
                "notes(0) = 9; notes(1) = 2; notes(2) = 3; notes(3) = 3; notes(4) = 2");
        Script.holds("23: (two beats with the same pitches have the same chord)",
                "gate(4); drop(1); play(2); tune(0, 6); drop(1); play(2); tune(0, 4); drop(1); play(2); notes(3) = 2",
                "notes(4) = 1; notes(0) = 3");
        Script.holds("23: 3 as many chords as notes",
                "gate(0); drop(3); play(2); tune(0, 1); play(1); tune(0, 30); play(1)",
                "notes(3) = 3; notes(4) = 1");
        Script.holds("23: 3 and 4 of the notes that are kept", TWO_BELLS, "drop(31); play(33); count(9) = 62",
                "notes(0) = 60; notes(3) = 3; notes(4) = 2; chord(3) = 32");
        Script.holds("23: 4 the greatest number of pitches in a chord: twelve", Script.straightChain(12),
                "drop(40); play(12); notes(4) = 11; play(1); notes(4) = 12; chord(13) = 2146959360; notes(3) = 7; notes(1) = 12");
    }

    private static void stepsAreCounted() {
        Script.holds("23: 5 how often a note is higher than the note before, 6 how often it is lower", TWO_BELLS,
                "drop(2); play(4); notes(5) = 2; notes(6) = 1");
        Script.holds("23: an equal note is not higher, nor lower", FIFTY_NINE, "notes(5) = 0; notes(6) = 0; tune(0, 1)",
                "play(1); notes(5) = 1; notes(6) = 0; tune(0, 0); play(1); notes(5) = 1; notes(6) = 1; play(1)",
                "notes(5) = 1; notes(6) = 1");
        Script.holds("23: 5 and 6 of the notes that are kept", TWO_BELLS, "drop(31); play(33); count(9) = 62",
                "note(59, 0) = 3; note(59, 2) = 5; notes(5) = 30; notes(6) = 29");
    }

    private static void theMeanPitchIsTold() {
        Script.holds("24: 0.0f if none are kept", "meanPitch() = 0.0; gate(30); drop(1); play(1); meanPitch() = 0.0");
        Script.holds("24: the sum of the pitches as a float, divided by the number of notes as a float", TWO_BELLS,
                "drop(2); play(2); meanPitch() = 5.0; play(2); meanPitch() = 7.0; tune(1, 30); drop(1); play(3)",
                "meanPitch() = 10.5");
        Script.holds("24: divided as floats",
                "gate(4); drop(1); play(2); tune(0, 6); drop(1); play(2); tune(0, 4); drop(1)",
                "play(2); meanPitch() = " + (float) 14 / (float) 3);
        Script.holds("24: of the notes that are kept", FIFTY_NINE, "tune(0, 30); play(1); meanPitch() = 0.5; play(1)",
                "meanPitch() = 1.0; drop(40); drop(40); play(50); play(8); meanPitch() = 30.0");
    }

    private static void nothingChanges() {
        Script.changeNothing("queries about notes; nothing changes", TWO_BELLS + "; drop(40); play(40)", "note(0, 0)",
                "note(59, 2)", "note(60, 1)", "chord(0)", "chord(40)", "notes(0)", "notes(1)", "notes(2)", "notes(3)",
                "notes(4)", "notes(5)", "notes(6)", "meanPitch()");
    }
}
