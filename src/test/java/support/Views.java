import java.util.ArrayList;
import java.util.List;

/**
 * All that can be asked about an object after some calls. Each part of it is asked of an object of its own that makes
 * the same calls anew, so that no object has more than 512 calls, and asking may change what is asked.
 */
final class Views {
    private interface Part {
        void tell(Subject x, List<Number> all);
    }

    private static final List<Part> STATE = List.of(Views::tellNumbers, Views::tellGates, Views::tellBalls,
            Views::tellNotes);

    /** How what lies outside the state, or under it, is brought to light. */
    private static final List<String> WAYS = List.of("undo()", "undo(); undo()", "undo(); undo(); undo()",
            "undo(); undo(); undo(); undo()", "undo(); undo(); undo(); undo(); undo()",
            "undo(); undo(); undo(); undo(); undo(); undo()", "goBack(0)", "goBack(1)", "execute()");

    private Views() {
    }

    /** The state, without the buffer, the saved states and the snapshots. */
    static String state(List<Row> rows) {
        StringBuilder all = new StringBuilder();
        for (Part part : STATE) {
            all.append(told(rows, part)).append(' ');
        }
        return all.toString();
    }

    /** The state, the buffer, each saved state and each snapshot. */
    static String whole(List<Row> rows) {
        StringBuilder all = new StringBuilder();
        all.append(state(rows)).append(told(rows, Views::tellWhatIsApart));
        for (String way : WAYS) {
            List<Row> longer = new ArrayList<>(rows);
            longer.addAll(Row.parse(way));
            all.append("\n    ").append(way).append(": ").append(state(longer))
                    .append(told(longer, Views::tellWhatIsApart));
        }
        return all.toString();
    }

    private static String told(List<Row> rows, Part part) {
        Subject x = new Subject();
        for (Row row : rows) {
            x.outcome(row.call(), row.arguments());
        }
        List<Number> all = new ArrayList<>();
        part.tell(x, all);
        return all.toString();
    }

    private static void tellNumbers(Subject x, List<Number> all) {
        for (int what = 0; what < 10; what++) {
            all.add(x.call("count", what));
        }
        for (int bin = 0; bin < 5; bin++) {
            for (int what = 0; what < 3; what++) {
                all.add(x.call("bin", bin, what));
            }
        }
        for (int what = 0; what < 7; what++) {
            all.add(x.call("notes", what));
        }
        all.add(x.call("meanPitch"));
    }

    private static void tellGates(Subject x, List<Number> all) {
        int gates = x.call("count", 1).intValue();
        for (int gate = 0; gate < gates; gate++) {
            for (int what = 0; what < 8; what++) {
                all.add(x.call("gateOf", gate, what));
            }
        }
    }

    private static void tellBalls(Subject x, List<Number> all) {
        int balls = x.call("count", 3).intValue();
        for (int rank = 0; rank < balls; rank++) {
            for (int what = 0; what < 5; what++) {
                all.add(x.call("ball", rank, what));
            }
        }
    }

    private static void tellNotes(Subject x, List<Number> all) {
        int notes = x.call("notes", 0).intValue();
        for (int index = 0; index < notes; index++) {
            for (int what = 0; what < 3; what++) {
                all.add(x.call("note", index, what));
            }
        }
    }

    private static void tellWhatIsApart(Subject x, List<Number> all) {
        all.add(x.call("count", 10));
        all.add(x.call("count", 11));
        all.add(x.call("firstError"));
    }
}
