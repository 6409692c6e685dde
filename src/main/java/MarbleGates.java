/**
 * A marble run that plays bells. This class tests the arguments of each call, throws what the
 * document names, and saves the state; the classes inside it do the work and never throw.
 */
public final class MarbleGates {
    public static final int NONE = -1;

    private static final int GATE_LIMIT = 12;
    private static final int BIN_COUNT = 5;
    private static final int BIN_TARGET = 20;
    private static final int TARGET_LIMIT = BIN_TARGET + BIN_COUNT;
    private static final int PITCH_LIMIT = 31;
    private static final int BALL_COUNT = 40;
    private static final int GAP = 0;
    private static final int LEVEL = 1;
    private static final int GREATEST_GAP = 9;
    private static final int GREATEST_LEVEL = 40;
    private static final int DROP_LIMIT = 40;
    private static final int TO_DROP_LIMIT = 200;
    private static final int BEAT_LIMIT = 50;
    private static final int NOTE_LIMIT = 60;
    private static final int BUFFER_LIMIT = 60;
    // The shortest order and its ";" are three characters, so no more orders fit into the buffer.
    private static final int ORDER_LIMIT = BUFFER_LIMIT / 3;
    private static final int SAVED_LIMIT = 6;
    private static final int SLOT_COUNT = 2;
    private static final int ROLL_LIMIT = 1000;
    // Twelve gates have 4096 ways to stand, so by then they have stood as at first again.
    private static final int STAND_LIMIT = 4096;

    private final Run run = new Run();
    private final Rolling rolling = new Rolling(run.gates);
    private final Music music = new Music(run.rung);
    private final OrderText text = new OrderText();
    private final History history = new History();
    private final Shelf snapshots = new Shelf(SLOT_COUNT);

    public MarbleGates() {
    }

    // ---- building

    public int gate(int pitch) throws IllegalArgumentException, IllegalStateException {
        if (!isPitch(pitch)) {
            throw new IllegalArgumentException("the pitch is not 0 to 30");
        }
        if (!run.gates.hasRoom()) {
            throw new IllegalStateException("there are 12 gates");
        }
        history.push(run);
        return run.gates.build(pitch);
    }

    public int lead(int gate, int exit, int target) throws IndexOutOfBoundsException, IllegalArgumentException {
        if (!run.gates.hasExit(gate, exit) || !run.gates.hasTarget(target)) {
            throw new IndexOutOfBoundsException("there is no such gate, exit or target");
        }
        if (target <= gate) {
            throw new IllegalArgumentException("the target is a gate that is not greater");
        }
        history.push(run);
        return run.gates.connect(gate, exit, target);
    }

    public int tune(int gate, int pitch) throws IndexOutOfBoundsException, IllegalArgumentException {
        if (!run.gates.exists(gate)) {
            throw new IndexOutOfBoundsException("there is no such gate");
        }
        if (!isPitch(pitch)) {
            throw new IllegalArgumentException("the pitch is not 0 to 30");
        }
        history.push(run);
        return run.gates.changePitch(gate, pitch);
    }

    public int flip(int gate) throws IndexOutOfBoundsException {
        if (!run.gates.exists(gate)) {
            throw new IndexOutOfBoundsException("there is no such gate");
        }
        history.push(run);
        return run.gates.turnByHand(gate);
    }

    public int set(int setting, int value) throws IndexOutOfBoundsException, IllegalArgumentException {
        if (setting != GAP && setting != LEVEL) {
            throw new IndexOutOfBoundsException("there is no such setting");
        }
        if (value < 1 || value > (setting == GAP ? GREATEST_GAP : GREATEST_LEVEL)) {
            throw new IllegalArgumentException("the value is out of range");
        }
        history.push(run);
        return run.settings.exchange(setting, value);
    }

    // ---- playing

    public int drop(int count) throws IllegalArgumentException, IllegalStateException {
        if (count < 1 || count > DROP_LIMIT) {
            throw new IllegalArgumentException("the count is not 1 to 40");
        }
        if (!run.mayAwait(count)) {
            throw new IllegalStateException("more than 200 balls would be to be dropped");
        }
        history.push(run);
        return run.await(count);
    }

    public int play(int beats) throws IllegalArgumentException {
        if (beats < 1 || beats > BEAT_LIMIT) {
            throw new IllegalArgumentException("the beats are not 1 to 50");
        }
        history.push(run);
        return run.passBeats(beats);
    }

    public int empty(int bin) throws IndexOutOfBoundsException {
        if (!isBin(bin)) {
            throw new IndexOutOfBoundsException("there is no such bin");
        }
        history.push(run);
        return run.bringBackAll(bin);
    }

    // ---- order text

    public int append(int code) throws IllegalArgumentException, IllegalStateException {
        if (code < 33 || code > 126) {
            throw new IllegalArgumentException("the code is not 33 to 126");
        }
        if (text.isFull()) {
            throw new IllegalStateException("the buffer holds 60 characters");
        }
        return text.add(code);
    }

    public int clearBuffer() {
        return text.clear();
    }

    public int firstError() {
        return text.read();
    }

    public int execute() throws IllegalArgumentException {
        if (!text.isOrderText()) {
            throw new IllegalArgumentException("the buffer is not a complete order text");
        }
        history.push(run);
        int orders = text.orderCount();
        int executed = 0;
        while (executed < orders && obey(executed)) {
            executed++;
        }
        text.clear();
        return executed;
    }

    /** Answers false, and changes nothing, if the order's own method would throw. */
    private boolean obey(int order) {
        int number = text.numberOf(order);
        if (!mayObey(order, number)) {
            return false;
        }
        switch (text.kindOf(order)) {
            case 'g':
                run.gates.build(number);
                break;
            case 'e':
                run.gates.connect(number, text.exitOf(order), text.targetOf(order));
                break;
            case 'd':
                run.await(number);
                break;
            case 't':
                run.passBeats(number);
                break;
            default:
                run.gates.turnByHand(number);
                break;
        }
        return true;
    }

    /** The text's own rules leave only these reasons for which a method would throw. */
    private boolean mayObey(int order, int number) {
        switch (text.kindOf(order)) {
            case 'g':
                return run.gates.hasRoom();
            case 'e':
                int target = text.targetOf(order);
                return run.gates.exists(number) && run.gates.hasTarget(target) && target > number;
            case 'd':
                return run.mayAwait(number);
            case 't':
                return true;
            default:
                return run.gates.exists(number);
        }
    }

    // ---- undo and snapshots

    public int undo() throws IllegalStateException {
        if (history.size() == 0) {
            throw new IllegalStateException("no state is saved");
        }
        return history.pop(run);
    }

    public int keep(int slot) throws IllegalArgumentException {
        if (!isSlot(slot)) {
            throw new IllegalArgumentException("there is no such slot");
        }
        snapshots.store(slot, run);
        return run.beat;
    }

    public int goBack(int slot) throws IllegalArgumentException, IllegalStateException {
        if (!isSlot(slot)) {
            throw new IllegalArgumentException("there is no such slot");
        }
        if (!snapshots.holds(slot)) {
            throw new IllegalStateException("the slot is empty");
        }
        history.push(run);
        snapshots.fetch(slot, run);
        return run.beat;
    }

    // ---- queries about gates, balls and bins; nothing changes

    public int gateOf(int gate, int what) throws IndexOutOfBoundsException, IllegalArgumentException {
        if (!run.gates.exists(gate)) {
            throw new IndexOutOfBoundsException("there is no such gate");
        }
        switch (what) {
            case 0:
                return run.gates.sides.at(gate);
            case 1:
                return run.gates.pitches.at(gate);
            case 2:
            case 3:
                return run.gates.targetOf(gate, what - 2);
            case 4:
            case 5:
                return run.gates.leaversOf(gate, what - 4);
            case 6:
                return run.balls.howManyAt(gate);
            case 7:
                return run.gates.turns.at(gate);
            default:
                throw new IllegalArgumentException("what is not 0 to 7");
        }
    }

    public int ball(int rank, int what) throws IllegalArgumentException {
        if (rank < 0 || what < 0 || what > 4) {
            throw new IllegalArgumentException("the rank is negative, or what is not 0 to 4");
        }
        if (rank >= run.balls.size) {
            return NONE;
        }
        switch (what) {
            case 0:
                return run.balls.places.at(rank);
            case 1:
                return run.balls.dropBeats.at(rank);
            case 2:
                return run.balls.passed.at(rank);
            case 3:
                return run.gates.stepsFrom(run.balls.places.at(rank));
            default:
                return run.gates.binFrom(run.balls.places.at(rank));
        }
    }

    public int bin(int bin, int what) throws IndexOutOfBoundsException, IllegalArgumentException {
        if (!isBin(bin)) {
            throw new IndexOutOfBoundsException("there is no such bin");
        }
        switch (what) {
            case 0:
                return run.held.at(bin);
            case 1:
                return run.came.at(bin);
            case 2:
                return run.gates.exitsInto(bin);
            default:
                throw new IllegalArgumentException("what is not 0 to 2");
        }
    }

    public int count(int what) throws IllegalArgumentException {
        switch (what) {
            case 0:
                return run.beat;
            case 1:
                return run.gates.built;
            case 2:
                return run.stock;
            case 3:
                return run.balls.size;
            case 4:
                return run.awaited;
            case 5:
                return run.settings.at(GAP);
            case 6:
                return run.settings.at(LEVEL);
            case 7:
                return run.dropped;
            case 8:
                return run.lifted;
            case 9:
                return run.rung.total;
            case 10:
                return history.size();
            case 11:
                return text.length;
            default:
                throw new IllegalArgumentException("what is not 0 to 11");
        }
    }

    // ---- queries about notes; nothing changes

    public int note(int index, int what) throws IllegalArgumentException {
        if (index < 0 || what < 0 || what > 2) {
            throw new IllegalArgumentException("the index is negative, or what is not 0 to 2");
        }
        if (index >= run.rung.kept) {
            return NONE;
        }
        int rank = run.rung.kept - 1 - index;
        switch (what) {
            case 0:
                return run.rung.beatAt(rank);
            case 1:
                return run.rung.gateAt(rank);
            default:
                return run.rung.pitchAt(rank);
        }
    }

    public int chord(int beat) throws IllegalArgumentException {
        if (beat < 0) {
            throw new IllegalArgumentException("the beat is negative");
        }
        return music.chordOf(beat);
    }

    public int notes(int what) throws IllegalArgumentException {
        switch (what) {
            case 0:
                return run.rung.kept;
            case 1:
                return music.differentPitches();
            case 2:
                return music.commonestPitch();
            case 3:
                return music.differentChords();
            case 4:
                return music.widestChord();
            case 5:
                return music.steps(1);
            case 6:
                return music.steps(-1);
            default:
                throw new IllegalArgumentException("what is not 0 to 6");
        }
    }

    public float meanPitch() {
        int kept = run.rung.kept;
        return kept > 0 ? (float) music.pitchSum() / (float) kept : 0.0f;
    }

    // ---- rolling out; nothing changes

    public int rolled(int count, int target, int way) throws IndexOutOfBoundsException, IllegalArgumentException {
        if (!run.gates.hasTarget(target)) {
            throw new IndexOutOfBoundsException("there is no such gate or bin");
        }
        if (!isRollCount(count) || (way != 0 && way != 1)) {
            throw new IllegalArgumentException("the count is not 0 to 1000, or the way is not 0 or 1");
        }
        return way == 0 ? rolling.ballByBall(count, target) : rolling.gateByGate(count, target);
    }

    public int sideAfter(int count, int gate) throws IndexOutOfBoundsException, IllegalArgumentException {
        if (!run.gates.exists(gate)) {
            throw new IndexOutOfBoundsException("there is no such gate");
        }
        if (!isRollCount(count)) {
            throw new IllegalArgumentException("the count is not 0 to 1000");
        }
        return rolling.sideLater(count, gate);
    }

    public int binOf(int index) throws IllegalArgumentException {
        if (index < 0 || index >= ROLL_LIMIT) {
            throw new IllegalArgumentException("the index is not 0 to 999");
        }
        return rolling.binAt(index);
    }

    public int firstInto(int bin) throws IndexOutOfBoundsException {
        if (!isBin(bin)) {
            throw new IndexOutOfBoundsException("there is no such bin");
        }
        return rolling.firstBallInto(bin);
    }

    public int period() {
        return rolling.ballsUntilSame();
    }

    public int way(boolean most) {
        return rolling.wayLength(most);
    }

    private static boolean isPitch(int pitch) {
        return pitch >= 0 && pitch < PITCH_LIMIT;
    }

    private static boolean isBin(int bin) {
        return bin >= 0 && bin < BIN_COUNT;
    }

    private static boolean isSlot(int slot) {
        return slot >= 0 && slot < SLOT_COUNT;
    }

    private static boolean isRollCount(int count) {
        return count >= 0 && count <= ROLL_LIMIT;
    }

    /** A row of numbers that tests each index itself, so that no place which uses it can miss. */
    private static final class Row {
        private final int[] cells;

        Row(int length) {
            cells = new int[Math.max(length, 0)];
        }

        int at(int place) {
            return place >= 0 && place < cells.length ? cells[place] : 0;
        }

        void put(int place, int value) {
            if (place >= 0 && place < cells.length) {
                cells[place] = value;
            }
        }

        void raise(int place, int amount) {
            if (place >= 0 && place < cells.length) {
                cells[place] += amount;
            }
        }

        int exchange(int place, int value) {
            int previous = at(place);
            put(place, value);
            return previous;
        }

        void wipe() {
            for (int place = 0; place < cells.length; place++) {
                cells[place] = 0;
            }
        }

        void copyFrom(Row other) {
            System.arraycopy(other.cells, 0, cells, 0, Math.min(other.cells.length, cells.length));
        }

        boolean sameAs(Row other) {
            for (int place = 0; place < cells.length; place++) {
                if (cells[place] != other.at(place)) {
                    return false;
                }
            }
            return true;
        }
    }

    /** The gates with their bells, and where their exits lead. */
    private static final class Gates {
        private int built;
        private final Row sides = new Row(GATE_LIMIT);
        private final Row pitches = new Row(GATE_LIMIT);
        private final Row turns = new Row(GATE_LIMIT);
        private final Row targets = new Row(2 * GATE_LIMIT);
        private final Row leavers = new Row(2 * GATE_LIMIT);

        void copyFrom(Gates other) {
            built = other.built;
            sides.copyFrom(other.sides);
            pitches.copyFrom(other.pitches);
            turns.copyFrom(other.turns);
            targets.copyFrom(other.targets);
            leavers.copyFrom(other.leavers);
        }

        boolean hasRoom() {
            return built < GATE_LIMIT;
        }

        boolean exists(int gate) {
            return gate >= 0 && gate < built;
        }

        boolean hasExit(int gate, int exit) {
            return exists(gate) && (exit == 0 || exit == 1);
        }

        boolean hasTarget(int target) {
            return exists(target) || (target >= BIN_TARGET && target < TARGET_LIMIT);
        }

        int build(int pitch) {
            int gate = built;
            built++;
            pitches.put(gate, pitch);
            targets.put(2 * gate, BIN_TARGET);
            targets.put(2 * gate + 1, BIN_TARGET);
            return gate;
        }

        int connect(int gate, int exit, int target) {
            return targets.exchange(2 * gate + exit, target);
        }

        int changePitch(int gate, int pitch) {
            return pitches.exchange(gate, pitch);
        }

        int turnByHand(int gate) {
            turns.raise(gate, 1);
            sides.put(gate, 1 - sides.at(gate));
            return sides.at(gate);
        }

        int targetOf(int gate, int exit) {
            return targets.at(2 * gate + exit);
        }

        int leaversOf(int gate, int exit) {
            return leavers.at(2 * gate + exit);
        }

        /** Lets one ball out, and answers the target to which it goes. */
        int letOut(int gate) {
            int side = sides.at(gate);
            leavers.raise(2 * gate + side, 1);
            sides.put(gate, 1 - side);
            return targetOf(gate, side);
        }

        int exitsInto(int bin) {
            int exits = 0;
            for (int gate = 0; gate < built; gate++) {
                exits += targetOf(gate, 0) == BIN_TARGET + bin ? 1 : 0;
                exits += targetOf(gate, 1) == BIN_TARGET + bin ? 1 : 0;
            }
            return exits;
        }

        /** A lone ball meets each gate at most once, so the sides as they stand tell its whole way. */
        int stepsFrom(int gate) {
            int target = gate;
            int steps = 0;
            while (steps < GATE_LIMIT && exists(target)) {
                target = targetOf(target, sides.at(target));
                steps++;
            }
            return steps;
        }

        int binFrom(int gate) {
            int target = gate;
            for (int step = 0; step < GATE_LIMIT && exists(target); step++) {
                target = targetOf(target, sides.at(target));
            }
            return target - BIN_TARGET;
        }
    }

    /** The balls in the run, the earliest first. */
    private static final class Balls {
        private int size;
        private final Row places = new Row(BALL_COUNT);
        private final Row dropBeats = new Row(BALL_COUNT);
        private final Row passed = new Row(BALL_COUNT);

        void copyFrom(Balls other) {
            size = other.size;
            places.copyFrom(other.places);
            dropBeats.copyFrom(other.dropBeats);
            passed.copyFrom(other.passed);
        }

        void add(int beat) {
            places.put(size, 0);
            dropBeats.put(size, beat);
            passed.put(size, 0);
            size++;
        }

        /** Moves a ball that passed a gate to the rank that it has now that others have left. */
        void advance(int rank, int newRank, int gate) {
            places.put(newRank, gate);
            dropBeats.put(newRank, dropBeats.at(rank));
            passed.put(newRank, passed.at(rank) + 1);
        }

        int howManyAt(int gate) {
            int found = 0;
            for (int rank = 0; rank < size; rank++) {
                found += places.at(rank) == gate ? 1 : 0;
            }
            return found;
        }
    }

    /** The latest notes, in a ring whose oldest note is the one that is overwritten. */
    private static final class Rung {
        private int oldest;
        private int kept;
        private int total;
        private final Row beats = new Row(NOTE_LIMIT);
        private final Row gates = new Row(NOTE_LIMIT);
        private final Row pitches = new Row(NOTE_LIMIT);

        void copyFrom(Rung other) {
            oldest = other.oldest;
            kept = other.kept;
            total = other.total;
            beats.copyFrom(other.beats);
            gates.copyFrom(other.gates);
            pitches.copyFrom(other.pitches);
        }

        void add(int beat, int gate, int pitch) {
            int place = placeOf(kept);
            beats.put(place, beat);
            gates.put(place, gate);
            pitches.put(place, pitch);
            total++;
            if (kept < NOTE_LIMIT) {
                kept++;
            } else {
                oldest = placeOf(1);
            }
        }

        private int placeOf(int rank) {
            return (oldest + rank) % NOTE_LIMIT;
        }

        int beatAt(int rank) {
            return beats.at(placeOf(rank));
        }

        int gateAt(int rank) {
            return gates.at(placeOf(rank));
        }

        int pitchAt(int rank) {
            return pitches.at(placeOf(rank));
        }
    }

    /** The whole state that is saved and restored. */
    private static final class Run {
        private int beat;
        private int stock = BALL_COUNT;
        private int awaited;
        private int dropped;
        private int lifted;
        private final Row settings = new Row(2);
        private final Row held = new Row(BIN_COUNT);
        private final Row came = new Row(BIN_COUNT);
        private final Gates gates = new Gates();
        private final Balls balls = new Balls();
        private final Rung rung = new Rung();

        Run() {
            settings.put(GAP, 1);
            settings.put(LEVEL, GREATEST_LEVEL);
        }

        void copyFrom(Run other) {
            beat = other.beat;
            stock = other.stock;
            awaited = other.awaited;
            dropped = other.dropped;
            lifted = other.lifted;
            settings.copyFrom(other.settings);
            held.copyFrom(other.held);
            came.copyFrom(other.came);
            gates.copyFrom(other.gates);
            balls.copyFrom(other.balls);
            rung.copyFrom(other.rung);
        }

        boolean mayAwait(int more) {
            return awaited + more <= TO_DROP_LIMIT;
        }

        int await(int more) {
            awaited += more;
            return awaited;
        }

        int bringBackAll(int bin) {
            int back = held.exchange(bin, 0);
            stock += back;
            return back;
        }

        int passBeats(int beats) {
            int before = rung.total;
            for (int i = 0; i < beats; i++) {
                beat++;
                passGates();
                dropIfDue();
                liftIfDue();
            }
            return rung.total - before;
        }

        private void passGates() {
            int inRun = balls.size;
            int staying = 0;
            for (int rank = 0; rank < inRun; rank++) {
                int gate = balls.places.at(rank);
                rung.add(beat, gate, gates.pitches.at(gate));
                int target = gates.letOut(gate);
                if (target < BIN_TARGET) {
                    balls.advance(rank, staying, target);
                    staying++;
                } else {
                    held.raise(target - BIN_TARGET, 1);
                    came.raise(target - BIN_TARGET, 1);
                }
            }
            balls.size = staying;
        }

        private void dropIfDue() {
            int gap = settings.at(GAP);
            if (gap > 0 && beat % gap == 0 && awaited > 0 && stock > 0 && gates.exists(0)) {
                stock--;
                awaited--;
                dropped++;
                balls.add(beat);
            }
        }

        private void liftIfDue() {
            int fullest = 0;
            for (int bin = 1; bin < BIN_COUNT; bin++) {
                if (held.at(bin) > held.at(fullest)) {
                    fullest = bin;
                }
            }
            if (held.at(fullest) >= settings.at(LEVEL)) {
                held.raise(fullest, -1);
                stock++;
                lifted++;
            }
        }
    }

    /** What is told about the kept notes; its rows are no part of the state. */
    private static final class Music {
        private final Rung rung;
        private final Row tally = new Row(PITCH_LIMIT);
        private final Row chords = new Row(NOTE_LIMIT);
        private int chordCount;

        Music(Rung rung) {
            this.rung = rung;
        }

        int chordOf(int beat) {
            int mask = 0;
            for (int rank = 0; rank < rung.kept; rank++) {
                if (rung.beatAt(rank) == beat) {
                    mask |= 1 << rung.pitchAt(rank);
                }
            }
            return mask;
        }

        private void tallyPitches() {
            tally.wipe();
            for (int rank = 0; rank < rung.kept; rank++) {
                tally.raise(rung.pitchAt(rank), 1);
            }
        }

        int differentPitches() {
            tallyPitches();
            int different = 0;
            for (int pitch = 0; pitch < PITCH_LIMIT; pitch++) {
                different += tally.at(pitch) > 0 ? 1 : 0;
            }
            return different;
        }

        int commonestPitch() {
            if (rung.kept == 0) {
                return NONE;
            }
            tallyPitches();
            int commonest = 0;
            for (int pitch = 1; pitch < PITCH_LIMIT; pitch++) {
                if (tally.at(pitch) > tally.at(commonest)) {
                    commonest = pitch;
                }
            }
            return commonest;
        }

        /** The notes of one beat stand side by side, so a chord ends where the beat changes. */
        private void gatherChords() {
            chordCount = 0;
            int mask = 0;
            for (int rank = 0; rank < rung.kept; rank++) {
                mask |= 1 << rung.pitchAt(rank);
                if (rank == rung.kept - 1 || rung.beatAt(rank + 1) != rung.beatAt(rank)) {
                    chords.put(chordCount, mask);
                    chordCount++;
                    mask = 0;
                }
            }
        }

        int differentChords() {
            gatherChords();
            int different = 0;
            for (int i = 0; i < chordCount; i++) {
                different += isFirstOfItsKind(i) ? 1 : 0;
            }
            return different;
        }

        private boolean isFirstOfItsKind(int index) {
            for (int i = 0; i < index; i++) {
                if (chords.at(i) == chords.at(index)) {
                    return false;
                }
            }
            return true;
        }

        int widestChord() {
            gatherChords();
            int widest = 0;
            for (int i = 0; i < chordCount; i++) {
                widest = Math.max(widest, Integer.bitCount(chords.at(i)));
            }
            return widest;
        }

        /** Counts the steps upward for the direction 1, and downward for -1. */
        int steps(int direction) {
            int found = 0;
            for (int rank = 1; rank < rung.kept; rank++) {
                int step = rung.pitchAt(rank) - rung.pitchAt(rank - 1);
                found += step * direction > 0 ? 1 : 0;
            }
            return found;
        }

        int pitchSum() {
            int sum = 0;
            for (int rank = 0; rank < rung.kept; rank++) {
                sum += rung.pitchAt(rank);
            }
            return sum;
        }
    }

    /** Rolls balls out over a copy of the sides, so that the gates themselves stay as they stand. */
    private static final class Rolling {
        private final Gates gates;
        private final Row sides = new Row(GATE_LIMIT);
        private final Row arrivals = new Row(TARGET_LIMIT);
        private final Row lengths = new Row(TARGET_LIMIT);

        Rolling(Gates gates) {
            this.gates = gates;
        }

        private void begin() {
            sides.copyFrom(gates.sides);
            arrivals.wipe();
        }

        /** Answers the bin into which the ball comes; it needs a gate. */
        private int rollOne() {
            int target = 0;
            for (int step = 0; step < GATE_LIMIT && gates.exists(target); step++) {
                arrivals.raise(target, 1);
                int side = sides.at(target);
                sides.put(target, 1 - side);
                target = gates.targetOf(target, side);
            }
            arrivals.raise(target, 1);
            return target - BIN_TARGET;
        }

        int ballByBall(int balls, int target) {
            if (!gates.exists(0)) {
                return 0;
            }
            begin();
            for (int i = 0; i < balls; i++) {
                rollOne();
            }
            return arrivals.at(target);
        }

        /** Exits lead to greater gates only, so all balls of a gate are known when its turn comes. */
        int gateByGate(int balls, int target) {
            arrivals.wipe();
            arrivals.put(0, balls);
            for (int gate = 0; gate < gates.built; gate++) {
                int side = gates.sides.at(gate);
                int came = arrivals.at(gate);
                arrivals.raise(gates.targetOf(gate, side), (came + 1) / 2);
                arrivals.raise(gates.targetOf(gate, 1 - side), came / 2);
            }
            return arrivals.at(target);
        }

        int sideLater(int balls, int gate) {
            return (gates.sides.at(gate) + gateByGate(balls, gate)) % 2;
        }

        int binAt(int index) {
            if (!gates.exists(0)) {
                return NONE;
            }
            begin();
            for (int i = 0; i < index; i++) {
                rollOne();
            }
            return rollOne();
        }

        int firstBallInto(int bin) {
            if (!gates.exists(0)) {
                return NONE;
            }
            begin();
            for (int i = 0; i < STAND_LIMIT; i++) {
                if (rollOne() == bin) {
                    return i;
                }
            }
            return NONE;
        }

        int ballsUntilSame() {
            if (!gates.exists(0)) {
                return NONE;
            }
            begin();
            for (int balls = 1; balls < STAND_LIMIT; balls++) {
                rollOne();
                if (sides.sameAs(gates.sides)) {
                    return balls;
                }
            }
            return STAND_LIMIT;
        }

        int wayLength(boolean most) {
            lengths.wipe();
            for (int gate = gates.built - 1; gate >= 0; gate--) {
                int left = lengths.at(gates.targetOf(gate, 0));
                int right = lengths.at(gates.targetOf(gate, 1));
                lengths.put(gate, 1 + (most ? Math.max(left, right) : Math.min(left, right)));
            }
            return lengths.at(0);
        }
    }

    /** The buffer, and the orders that its characters make; reading goes on until the first error. */
    private static final class OrderText {
        private static final int KIND = 0;
        private static final int NUMBER = 1;
        private static final int NUMBER_MORE = 2;
        private static final int TARGET = 3;
        private static final int TARGET_MORE = 4;
        private static final int BIN = 5;
        private static final int END = 6;

        private int length;
        private final Row codes = new Row(BUFFER_LIMIT);
        private int phase;
        private int order;
        private final Row kinds = new Row(ORDER_LIMIT);
        private final Row numbers = new Row(ORDER_LIMIT);
        private final Row exits = new Row(ORDER_LIMIT);
        private final Row targets = new Row(ORDER_LIMIT);

        boolean isFull() {
            return length >= BUFFER_LIMIT;
        }

        int add(int code) {
            codes.put(length, code);
            length++;
            return length;
        }

        int clear() {
            int previous = length;
            length = 0;
            return previous;
        }

        /** Answers the index of the first error, or the length of the buffer. */
        int read() {
            phase = KIND;
            order = 0;
            for (int index = 0; index < length; index++) {
                if (!take(codes.at(index))) {
                    return index;
                }
            }
            return length;
        }

        boolean isOrderText() {
            return read() == length && mayEnd();
        }

        int orderCount() {
            return order + 1;
        }

        int kindOf(int index) {
            return kinds.at(index);
        }

        int numberOf(int index) {
            return numbers.at(index);
        }

        int exitOf(int index) {
            return exits.at(index);
        }

        int targetOf(int index) {
            return targets.at(index);
        }

        private boolean mayEnd() {
            switch (phase) {
                case NUMBER_MORE:
                    return kinds.at(order) != 'e';
                case TARGET_MORE:
                case END:
                    return true;
                default:
                    return false;
            }
        }

        private boolean take(int code) {
            if (code == ';') {
                return takeSeparator();
            }
            switch (phase) {
                case KIND:
                    return takeKind(code);
                case NUMBER:
                    return takeNumber(code);
                case NUMBER_MORE:
                    return takeMoreOfNumber(code);
                case TARGET:
                    return takeTarget(code);
                case TARGET_MORE:
                    return takeMoreOfTarget(code);
                case BIN:
                    return takeBin(code);
                default:
                    return false;
            }
        }

        private boolean takeSeparator() {
            if (!mayEnd()) {
                return false;
            }
            order++;
            phase = KIND;
            return true;
        }

        private boolean takeKind(int code) {
            if (greatest(code) < 0) {
                return false;
            }
            kinds.put(order, code);
            phase = NUMBER;
            return true;
        }

        private boolean takeNumber(int code) {
            int kind = kinds.at(order);
            int least = kind == 'd' || kind == 't' ? 1 : 0;
            if (!isDigit(code) || code - '0' < least) {
                return false;
            }
            numbers.put(order, code - '0');
            phase = NUMBER_MORE;
            return true;
        }

        private boolean takeMoreOfNumber(int code) {
            int kind = kinds.at(order);
            int number = longer(numbers.at(order), code, greatest(kind));
            if (number >= 0) {
                numbers.put(order, number);
                return true;
            }
            return kind == 'e' && takeExit(code);
        }

        private boolean takeExit(int code) {
            if (code != 'L' && code != 'R') {
                return false;
            }
            exits.put(order, code == 'L' ? 0 : 1);
            phase = TARGET;
            return true;
        }

        private boolean takeTarget(int code) {
            if (code == 'b') {
                phase = BIN;
                return true;
            }
            if (!isDigit(code)) {
                return false;
            }
            targets.put(order, code - '0');
            phase = TARGET_MORE;
            return true;
        }

        private boolean takeMoreOfTarget(int code) {
            int target = longer(targets.at(order), code, GATE_LIMIT - 1);
            if (target < 0) {
                return false;
            }
            targets.put(order, target);
            return true;
        }

        private boolean takeBin(int code) {
            if (!isDigit(code) || code - '0' >= BIN_COUNT) {
                return false;
            }
            targets.put(order, BIN_TARGET + code - '0');
            phase = END;
            return true;
        }

        /** Answers the greatest number that an order of this kind has, and NONE if there is no such kind. */
        private static int greatest(int kind) {
            switch (kind) {
                case 'g':
                    return PITCH_LIMIT - 1;
                case 'e':
                case 'f':
                    return GATE_LIMIT - 1;
                case 'd':
                    return DROP_LIMIT;
                case 't':
                    return BEAT_LIMIT;
                default:
                    return NONE;
            }
        }

        private static boolean isDigit(int code) {
            return code >= '0' && code <= '9';
        }

        /** Answers the number with one more digit, and NONE if that is no number of an order. */
        private static int longer(int number, int code, int greatest) {
            if (number == 0 || !isDigit(code) || number * 10 + code - '0' > greatest) {
                return NONE;
            }
            return number * 10 + code - '0';
        }
    }

    /** Places for whole states, made once and used again, so that saving makes no objects. */
    private static final class Shelf {
        private final Run[] places;
        private final Row filled;

        Shelf(int size) {
            places = new Run[Math.max(size, 0)];
            for (int place = 0; place < places.length; place++) {
                places[place] = new Run();
            }
            filled = new Row(size);
        }

        boolean holds(int place) {
            return filled.at(place) == 1;
        }

        void store(int place, Run run) {
            if (place >= 0 && place < places.length && places[place] != null) {
                places[place].copyFrom(run);
                filled.put(place, 1);
            }
        }

        void fetch(int place, Run run) {
            if (place >= 0 && place < places.length && places[place] != null) {
                run.copyFrom(places[place]);
            }
        }
    }

    /** The saved states, in a ring whose oldest state is the one that is overwritten. */
    private static final class History {
        private final Shelf shelf = new Shelf(SAVED_LIMIT);
        private int oldest;
        private int saved;

        int size() {
            return saved;
        }

        private int placeOf(int rank) {
            return (oldest + rank) % SAVED_LIMIT;
        }

        void push(Run run) {
            shelf.store(placeOf(saved), run);
            if (saved < SAVED_LIMIT) {
                saved++;
            } else {
                oldest = placeOf(1);
            }
        }

        /** Restores the state that was saved last, if there is one; answers how many are left. */
        int pop(Run run) {
            if (saved > 0) {
                saved--;
                shelf.fetch(placeOf(saved), run);
            }
            return saved;
        }
    }
}
