import java.util.ArrayDeque;
import java.util.ArrayList;
import java.util.Deque;
import java.util.HashMap;
import java.util.HashSet;
import java.util.List;
import java.util.Map;
import java.util.Set;
import java.util.TreeMap;
import java.util.TreeSet;

/**
 * A second reading of the document, in other words than the program's: all notes are remembered, states are
 * copied whole, and the orders are a list of all that there are.
 */
final class Model {
    private static final class Gate {
        int side;
        int pitch;
        int[] exits = {20, 20};
        int[] left = {0, 0};
        int flips;

        Gate copy() {
            Gate copy = new Gate();
            copy.side = side;
            copy.pitch = pitch;
            copy.exits = exits.clone();
            copy.left = left.clone();
            copy.flips = flips;
            return copy;
        }
    }

    private record Ball(int gate, int dropped, int passed) {
    }

    private record Note(int beat, int gate, int pitch) {
    }

    private static final class State {
        List<Gate> gates = new ArrayList<>();
        List<Ball> balls = new ArrayList<>();
        List<Note> all = new ArrayList<>();
        int[] bins = new int[5];
        int[] came = new int[5];
        int beat;
        int toDrop;
        int[] settings = {1, 40};
        int dropped;
        int lifted;

        State copy() {
            State copy = new State();
            for (Gate gate : gates) {
                copy.gates.add(gate.copy());
            }
            copy.balls = new ArrayList<>(balls);
            copy.all = new ArrayList<>(all);
            copy.bins = bins.clone();
            copy.came = came.clone();
            copy.beat = beat;
            copy.toDrop = toDrop;
            copy.settings = settings.clone();
            copy.dropped = dropped;
            copy.lifted = lifted;
            return copy;
        }

        int stock() {
            int stock = 40 - balls.size();
            for (int held : bins) {
                stock -= held;
            }
            return stock;
        }

        List<Note> kept() {
            return all.subList(Math.max(0, all.size() - 60), all.size());
        }
    }

    private static final Set<String> ORDERS = new HashSet<>();
    private static final Set<String> BEGINNINGS = new HashSet<>();

    static {
        for (int pitch = 0; pitch <= 30; pitch++) {
            ORDERS.add("g" + pitch);
        }
        for (int gate = 0; gate <= 11; gate++) {
            ORDERS.add("f" + gate);
            for (String exit : List.of("L", "R")) {
                for (int target = 0; target <= 11; target++) {
                    ORDERS.add("e" + gate + exit + target);
                }
                for (int bin = 0; bin <= 4; bin++) {
                    ORDERS.add("e" + gate + exit + "b" + bin);
                }
            }
        }
        for (int number = 1; number <= 50; number++) {
            ORDERS.add("t" + number);
            if (number <= 40) {
                ORDERS.add("d" + number);
            }
        }
        for (String order : ORDERS) {
            for (int length = 0; length <= order.length(); length++) {
                BEGINNINGS.add(order.substring(0, length));
            }
        }
    }

    private State now = new State();
    private final Deque<State> saved = new ArrayDeque<>();
    private final State[] slots = new State[2];
    private String buffer = "";

    private static void index(boolean good) {
        if (!good) {
            throw new IndexOutOfBoundsException();
        }
    }

    private static void argument(boolean good) {
        if (!good) {
            throw new IllegalArgumentException();
        }
    }

    private static void state(boolean good) {
        if (!good) {
            throw new IllegalStateException();
        }
    }

    private static boolean between(int number, int least, int greatest) {
        return least <= number && number <= greatest;
    }

    private boolean isGate(int gate) {
        return between(gate, 0, now.gates.size() - 1);
    }

    private void save(State before) {
        saved.addLast(before);
        if (saved.size() > 6) {
            saved.removeFirst();
        }
    }

    /** The number of a call is its place in the document's face. */
    Number call(int call, int... a) {
        switch (call) {
            case 0, 1, 2, 3, 4, 5, 6, 7: {
                State before = now.copy();
                int answer = change(call, a);
                save(before);
                return answer;
            }
            case 8: {
                argument(between(a[0], 33, 126));
                state(buffer.length() < 60);
                buffer += (char) a[0];
                return buffer.length();
            }
            case 9: {
                int length = buffer.length();
                buffer = "";
                return length;
            }
            case 10:
                return firstError();
            case 11:
                return execute();
            case 12: {
                state(!saved.isEmpty());
                now = saved.removeLast();
                return saved.size();
            }
            case 13: {
                argument(between(a[0], 0, 1));
                slots[a[0]] = now.copy();
                return now.beat;
            }
            case 14: {
                argument(between(a[0], 0, 1));
                state(slots[a[0]] != null);
                save(now);
                now = slots[a[0]].copy();
                return now.beat;
            }
            default:
                return query(call, a);
        }
    }

    private int change(int call, int[] a) {
        switch (call) {
            case 0: {
                argument(between(a[0], 0, 30));
                state(now.gates.size() < 12);
                Gate gate = new Gate();
                gate.pitch = a[0];
                now.gates.add(gate);
                return now.gates.size() - 1;
            }
            case 1: {
                index(isGate(a[0]) && between(a[1], 0, 1) && (isGate(a[2]) || between(a[2], 20, 24)));
                argument(a[2] >= 20 || a[2] > a[0]);
                int previous = now.gates.get(a[0]).exits[a[1]];
                now.gates.get(a[0]).exits[a[1]] = a[2];
                return previous;
            }
            case 2: {
                index(isGate(a[0]));
                argument(between(a[1], 0, 30));
                int previous = now.gates.get(a[0]).pitch;
                now.gates.get(a[0]).pitch = a[1];
                return previous;
            }
            case 3: {
                index(isGate(a[0]));
                Gate gate = now.gates.get(a[0]);
                gate.side ^= 1;
                gate.flips++;
                return gate.side;
            }
            case 4: {
                index(between(a[0], 0, 1));
                argument(between(a[1], 1, a[0] == 0 ? 9 : 40));
                int previous = now.settings[a[0]];
                now.settings[a[0]] = a[1];
                return previous;
            }
            case 5: {
                argument(between(a[0], 1, 40));
                state(now.toDrop + a[0] <= 200);
                return now.toDrop += a[0];
            }
            case 6: {
                argument(between(a[0], 1, 50));
                int before = now.all.size();
                for (int i = 0; i < a[0]; i++) {
                    beat();
                }
                return now.all.size() - before;
            }
            default: {
                index(between(a[0], 0, 4));
                int held = now.bins[a[0]];
                now.bins[a[0]] = 0;
                return held;
            }
        }
    }

    private void beat() {
        now.beat++;
        List<Ball> after = new ArrayList<>();
        for (Ball ball : now.balls) {
            Gate gate = now.gates.get(ball.gate());
            now.all.add(new Note(now.beat, ball.gate(), gate.pitch));
            int target = gate.exits[gate.side];
            gate.left[gate.side]++;
            gate.side ^= 1;
            if (target >= 20) {
                now.bins[target - 20]++;
                now.came[target - 20]++;
            } else {
                after.add(new Ball(target, ball.dropped(), ball.passed() + 1));
            }
        }
        now.balls = after;
        if (now.beat % now.settings[0] == 0 && now.toDrop > 0 && now.stock() > 0 && !now.gates.isEmpty()) {
            now.balls.add(new Ball(0, now.beat, 0));
            now.toDrop--;
            now.dropped++;
        }
        int most = 0;
        for (int held : now.bins) {
            most = Math.max(most, held);
        }
        for (int bin = 0; bin < 5 && most >= now.settings[1]; bin++) {
            if (now.bins[bin] == most) {
                now.bins[bin]--;
                now.lifted++;
                break;
            }
        }
    }

    private static boolean mayGoOn(String text) {
        String[] orders = text.split(";", -1);
        for (int i = 0; i + 1 < orders.length; i++) {
            if (!ORDERS.contains(orders[i])) {
                return false;
            }
        }
        return BEGINNINGS.contains(orders[orders.length - 1]);
    }

    private int firstError() {
        for (int length = 1; length <= buffer.length(); length++) {
            if (!mayGoOn(buffer.substring(0, length))) {
                return length - 1;
            }
        }
        return buffer.length();
    }

    private int execute() {
        String[] orders = buffer.split(";", -1);
        for (String order : orders) {
            argument(ORDERS.contains(order));
        }
        save(now.copy());
        buffer = "";
        int executed = 0;
        try {
            for (String order : orders) {
                executeOne(order);
                executed++;
            }
        } catch (RuntimeException e) {
            return executed;
        }
        return executed;
    }

    private void executeOne(String order) {
        String rest = order.substring(1);
        if (order.charAt(0) != 'e') {
            change(Map.of('g', 0, 'f', 3, 'd', 5, 't', 6).get(order.charAt(0)), new int[] {Integer.parseInt(rest)});
            return;
        }
        int exit = rest.contains("L") ? 0 : 1;
        String[] parts = rest.split("[LR]");
        int target = parts[1].charAt(0) == 'b' ? 20 + Integer.parseInt(parts[1].substring(1))
                : Integer.parseInt(parts[1]);
        change(1, new int[] {Integer.parseInt(parts[0]), exit, target});
    }

    private Number query(int call, int[] a) {
        switch (call) {
            case 15:
                index(isGate(a[0]));
                argument(between(a[1], 0, 7));
                return gateOf(a[0], a[1]);
            case 16:
                argument(a[0] >= 0 && between(a[1], 0, 4));
                return a[0] >= now.balls.size() ? -1 : ball(now.balls.get(a[0]), a[1]);
            case 17:
                index(between(a[0], 0, 4));
                argument(between(a[1], 0, 2));
                return a[1] == 0 ? now.bins[a[0]] : a[1] == 1 ? now.came[a[0]] : exitsTo(20 + a[0]);
            case 18:
                argument(between(a[0], 0, 11));
                return new int[] {now.beat, now.gates.size(), now.stock(), now.balls.size(), now.toDrop,
                    now.settings[0], now.settings[1], now.dropped, now.lifted, now.all.size(), saved.size(),
                    buffer.length()}[a[0]];
            case 19: {
                argument(a[0] >= 0 && between(a[1], 0, 2));
                if (a[0] >= now.kept().size()) {
                    return -1;
                }
                Note note = now.all.get(now.all.size() - 1 - a[0]);
                return a[1] == 0 ? note.beat() : a[1] == 1 ? note.gate() : note.pitch();
            }
            case 20: {
                argument(a[0] >= 0);
                int mask = 0;
                for (int pitch : chords().getOrDefault(a[0], new TreeSet<>())) {
                    mask += 1 << pitch;
                }
                return mask;
            }
            case 21:
                argument(between(a[0], 0, 6));
                return notes(a[0]);
            case 22: {
                int sum = 0;
                for (Note note : now.kept()) {
                    sum += note.pitch();
                }
                return now.all.isEmpty() ? 0.0f : (float) sum / (float) now.kept().size();
            }
            default:
                return rolling(call, a);
        }
    }

    private int gateOf(int gate, int what) {
        Gate g = now.gates.get(gate);
        int here = 0;
        for (Ball ball : now.balls) {
            if (ball.gate() == gate) {
                here++;
            }
        }
        return new int[] {g.side, g.pitch, g.exits[0], g.exits[1], g.left[0], g.left[1], here, g.flips}[what];
    }

    private int ball(Ball ball, int what) {
        int passes = 0;
        int target = ball.gate();
        while (target < 20) {
            target = now.gates.get(target).exits[now.gates.get(target).side];
            passes++;
        }
        return new int[] {ball.gate(), ball.dropped(), ball.passed(), passes, target - 20}[what];
    }

    private int exitsTo(int target) {
        int exits = 0;
        for (Gate gate : now.gates) {
            for (int exit : gate.exits) {
                if (exit == target) {
                    exits++;
                }
            }
        }
        return exits;
    }

    private Map<Integer, Set<Integer>> chords() {
        Map<Integer, Set<Integer>> chords = new HashMap<>();
        for (Note note : now.kept()) {
            chords.computeIfAbsent(note.beat(), beat -> new TreeSet<>()).add(note.pitch());
        }
        return chords;
    }

    private int notes(int what) {
        Map<Integer, Integer> tally = new TreeMap<>();
        int higher = 0;
        int lower = 0;
        Note before = null;
        for (Note note : now.kept()) {
            tally.merge(note.pitch(), 1, Integer::sum);
            higher += before != null && note.pitch() > before.pitch() ? 1 : 0;
            lower += before != null && note.pitch() < before.pitch() ? 1 : 0;
            before = note;
        }
        int commonest = -1;
        for (int pitch : tally.keySet()) {
            if (commonest < 0 || tally.get(pitch) > tally.get(commonest)) {
                commonest = pitch;
            }
        }
        int widest = 0;
        for (Set<Integer> chord : chords().values()) {
            widest = Math.max(widest, chord.size());
        }
        return new int[] {now.kept().size(), tally.size(), commonest, new HashSet<>(chords().values()).size(), widest,
            higher, lower}[what];
    }

    private int[] sides() {
        int[] sides = new int[now.gates.size()];
        for (int gate = 0; gate < sides.length; gate++) {
            sides[gate] = now.gates.get(gate).side;
        }
        return sides;
    }

    /** Rolls one ball out from a gate, and answers how often it came to the target. */
    private int roll(int[] sides, int gate, int target) {
        if (gate >= 20) {
            return gate == target ? 1 : 0;
        }
        int next = now.gates.get(gate).exits[sides[gate]];
        sides[gate] ^= 1;
        return (gate == target ? 1 : 0) + roll(sides, next, target);
    }

    private int rollAll(int[] sides, int count, int target) {
        int came = 0;
        for (int i = 0; i < count && sides.length > 0; i++) {
            came += roll(sides, 0, target);
        }
        return came;
    }

    private int rolling(int call, int[] a) {
        int[] sides = sides();
        switch (call) {
            case 23:
                index(isGate(a[1]) || between(a[1], 20, 24));
                argument(between(a[0], 0, 1000) && between(a[2], 0, 1));
                return rollAll(sides, a[0], a[1]);
            case 24:
                index(isGate(a[1]));
                argument(between(a[0], 0, 1000));
                rollAll(sides, a[0], 0);
                return sides[a[1]];
            case 25:
                argument(between(a[0], 0, 999));
                rollAll(sides, a[0], 0);
                for (int bin = 0; bin < 5; bin++) {
                    if (rollAll(sides.clone(), 1, 20 + bin) == 1) {
                        return bin;
                    }
                }
                return -1;
            case 26:
                index(between(a[0], 0, 4));
                for (int ball = 0; ball < 4096; ball++) {
                    if (rollAll(sides, 1, 20 + a[0]) == 1) {
                        return ball;
                    }
                }
                return -1;
            case 27:
                for (int balls = 1; balls <= 4096 && sides.length > 0; balls++) {
                    rollAll(sides, 1, 0);
                    if (java.util.Arrays.equals(sides, sides())) {
                        return balls;
                    }
                }
                return -1;
            default:
                return now.gates.isEmpty() ? 0 : way(0, a[0] == 1);
        }
    }

    private int way(int target, boolean most) {
        if (target >= 20) {
            return 0;
        }
        int left = way(now.gates.get(target).exits[0], most);
        int right = way(now.gates.get(target).exits[1], most);
        return 1 + (most ? Math.max(left, right) : Math.min(left, right));
    }
}
