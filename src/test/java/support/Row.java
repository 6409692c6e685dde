import java.util.ArrayList;
import java.util.List;

/**
 * One call of a run that is told as a text: "gate(5) = 0" for an answer, "gate(31) ! argument" for an exception, or
 * "gate(5)" alone if the answer is not looked at.
 */
record Row(String text, int call, int[] arguments, String due) {

    /** Several calls stand in one text with ";" between them; "12 * " makes a call twelve times. */
    static List<Row> parse(String text) {
        List<Row> rows = new ArrayList<>();
        if (text.startsWith("type ")) {
            addCharacters(rows, text.substring(5));
            return rows;
        }
        for (String part : text.split(";")) {
            String call = part.strip();
            int times = 1;
            if (call.indexOf('*') >= 0) {
                times = Integer.parseInt(call.substring(0, call.indexOf('*')).strip());
                call = call.substring(call.indexOf('*') + 1).strip();
            }
            for (int i = 0; i < times; i++) {
                rows.add(of(call));
            }
        }
        return rows;
    }

    static List<Row> parseAll(String... texts) {
        List<Row> rows = new ArrayList<>();
        for (String text : texts) {
            rows.addAll(parse(text));
        }
        return rows;
    }

    private static void addCharacters(List<Row> rows, String characters) {
        int append = Subject.NAMES.indexOf("append");
        for (char c : characters.toCharArray()) {
            rows.add(new Row("append '" + c + "'", append, new int[] {c}, null));
        }
    }

    private static Row of(String text) {
        int open = text.indexOf('(');
        int close = text.indexOf(')');
        int number = Subject.NAMES.indexOf(text.substring(0, open));
        if (number < 0) {
            throw new AssertionError("no call: " + text);
        }
        String inside = text.substring(open + 1, close).strip();
        String[] parts = inside.isEmpty() ? new String[0] : inside.split(",");
        int[] arguments = new int[parts.length];
        for (int i = 0; i < parts.length; i++) {
            arguments[i] = argument(parts[i].strip());
        }
        return new Row(text, number, arguments, due(text.substring(close + 1).strip()));
    }

    private static int argument(String text) {
        return switch (text) {
            case "true" -> 1;
            case "false" -> 0;
            case "max" -> Integer.MAX_VALUE;
            case "min" -> Integer.MIN_VALUE;
            default -> Integer.parseInt(text);
        };
    }

    private static String due(String rest) {
        return switch (rest) {
            case "" -> null;
            case "! index" -> IndexOutOfBoundsException.class.getName();
            case "! argument" -> IllegalArgumentException.class.getName();
            case "! state" -> IllegalStateException.class.getName();
            case "= NONE" -> "-1";
            default -> {
                if (!rest.startsWith("= ")) {
                    throw new AssertionError("not understood: " + rest);
                }
                yield rest.substring(2);
            }
        };
    }

    boolean isRefused() {
        return due != null && due.endsWith("Exception");
    }
}
