/** Promises 21 to 24: note, chord, notes, meanPitch. */
public final class NotesTest {
    public static void main(String[] args) {
        withoutNotes();
        notesAreTold();
        aNoteKeepsItsPitch();
        sixtyNotesAreKept();
        chordsAreGathered();
        equalChordsCountOnce();
        theCommonestPitchIsTheLowest();
        ofTheOldestBeatOnlyTheKeptNotesCount();
        Checks.end("NotesTest");
    }

    private static void withoutNotes() {
        MarbleGates x = new MarbleGates();
        int[] due = {0, 0, MarbleGates.NONE, 0, 0, 0, 0};
        for (int what = 0; what < due.length; what++) {
            Checks.due("without notes: notes(" + what + ")", x.notes(what), due[what]);
        }
        Checks.due("without notes: meanPitch()", x.meanPitch(), 0.0);
        Checks.due("without notes: note(0, 0)", x.note(0, 0), MarbleGates.NONE);
        Checks.due("without notes: chord(0)", x.chord(0), 0);
        Checks.refusedAsArgument(x, "note(-1, 0)", () -> x.note(-1, 0));
        Checks.refusedAsArgument(x, "note(0, 3)", () -> x.note(0, 3));
        Checks.refusedAsArgument(x, "note(0, -1)", () -> x.note(0, -1));
        Checks.refusedAsArgument(x, "note(99, 3)", () -> x.note(99, 3));
        Checks.refusedAsArgument(x, "chord(-1)", () -> x.chord(-1));
        Checks.refusedAsArgument(x, "notes(7)", () -> x.notes(7));
        Checks.refusedAsArgument(x, "notes(-1)", () -> x.notes(-1));
    }

    /** Two gates, one behind the other; each ball rings the pitches 5 and 9 in two beats. */
    private static MarbleGates twoBells(int balls) {
        MarbleGates x = Checks.gates(5, 9);
        x.lead(0, 0, 1);
        x.lead(0, 1, 1);
        x.drop(balls);
        return x;
    }

    private static void notesAreTold() {
        MarbleGates x = twoBells(2);
        x.play(4);
        int[][] due = {{4, 1, 9}, {3, 0, 5}, {3, 1, 9}, {2, 0, 5}};
        for (int index = 0; index < due.length; index++) {
            for (int what = 0; what < 3; what++) {
                Checks.due("note(" + index + ", " + what + ")", x.note(index, what), due[index][what]);
            }
        }
        Checks.due("note(4, 0)", x.note(4, 0), MarbleGates.NONE);
        Checks.due("note(max, 0)", x.note(Integer.MAX_VALUE, 0), MarbleGates.NONE);
        Checks.due("higher", x.notes(5), 2);
        Checks.due("lower", x.notes(6), 1);
        Checks.due("the mean", x.meanPitch(), 7.0);
    }

    private static void aNoteKeepsItsPitch() {
        MarbleGates x = twoBells(2);
        x.play(3);
        x.tune(1, 30);
        Checks.due("the note that rang", x.note(1, 2), 9);
        Checks.due("the chord that rang", x.chord(3), (1 << 5) | (1 << 9));
        x.play(1);
        Checks.due("the note that rings now", x.note(0, 2), 30);
        Checks.due("its chord", x.chord(4), 1 << 30);
        Checks.due("the mean", x.meanPitch(), (5 + 9 + 5 + 30) / 4.0f);
    }

    private static void sixtyNotesAreKept() {
        MarbleGates x = Checks.gates(0);
        x.drop(40);
        x.drop(30);
        x.set(1, 1);
        x.play(50);
        Checks.due("49 notes", x.notes(0), 49);
        x.play(11);
        Checks.due("60 notes", x.notes(0), 60);
        Checks.due("the oldest of 60", x.note(59, 0), 2);
        x.play(1);
        Checks.due("60 of 61 notes", x.notes(0), 60);
        Checks.due("61 notes so far", x.count(9), 61);
        Checks.due("the oldest that is kept", x.note(59, 0), 3);
        Checks.due("note(60, 0)", x.note(60, 0), MarbleGates.NONE);
        Checks.due("the chord of a note that is not kept", x.chord(2), 0);
        Checks.due("the chord of the pitch 0", x.chord(3), 1);
        Checks.due("the chord of a beat to come", x.chord(Integer.MAX_VALUE), 0);
        Checks.due("equal notes are not higher", x.notes(5), 0);
        Checks.due("nor lower", x.notes(6), 0);
        Checks.due("the mean of zeros", x.meanPitch(), 0.0);
    }

    private static void chordsAreGathered() {
        MarbleGates x = Checks.gates(3, 3, 8);
        x.lead(0, 0, 1);
        x.lead(0, 1, 1);
        x.lead(1, 0, 2);
        x.lead(1, 1, 2);
        x.drop(3);
        x.play(6);
        Checks.due("chord(2)", x.chord(2), 1 << 3);
        Checks.due("chord(3), one pitch twice", x.chord(3), 1 << 3);
        Checks.due("chord(4)", x.chord(4), (1 << 3) | (1 << 8));
        Checks.due("chord(6)", x.chord(6), 1 << 8);
        Checks.due("notes", x.notes(0), 9);
        Checks.due("different pitches", x.notes(1), 2);
        Checks.due("the commonest", x.notes(2), 3);
        Checks.due("different chords", x.notes(3), 3);
        Checks.due("the widest chord", x.notes(4), 2);
    }

    private static void equalChordsCountOnce() {
        MarbleGates x = Checks.gates(4);
        x.drop(1);
        x.play(2);
        x.tune(0, 6);
        x.drop(1);
        x.play(2);
        x.tune(0, 4);
        x.drop(1);
        x.play(2);
        Checks.due("chords of one pitch", x.notes(3), 2);
        Checks.due("the widest of them", x.notes(4), 1);
        Checks.due("higher once", x.notes(5), 1);
        Checks.due("lower once", x.notes(6), 1);
        Checks.due("the mean", x.meanPitch(), (float) 14 / (float) 3);
    }

    private static void theCommonestPitchIsTheLowest() {
        MarbleGates x = Checks.gates(30, 2);
        x.lead(0, 0, 1);
        x.drop(1);
        x.play(5);
        Checks.due("of several the lowest", x.notes(2), 2);
        x.drop(2);
        x.play(5);
        Checks.due("that most have", x.notes(2), 30);
    }

    /** The beats ring 9 and 5 by turns of two notes, so the window of 60 notes can cut a beat. */
    private static void ofTheOldestBeatOnlyTheKeptNotesCount() {
        MarbleGates x = twoBells(31);
        x.play(33);
        Checks.due("62 notes so far", x.count(9), 62);
        Checks.due("the oldest that is kept", x.note(59, 0), 3);
        Checks.due("its pitch", x.note(59, 2), 5);
        Checks.due("what is kept of its beat", x.chord(3), 1 << 5);
        Checks.due("the cut chord counts as it is kept", x.notes(3), 3);
        Checks.due("the step from a note that is not kept does not count", x.notes(6), 29);
        Checks.due("steps up", x.notes(5), 30);
    }
}
