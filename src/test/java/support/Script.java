import java.util.ArrayList;
import java.util.List;

/** Runs of calls on new objects, told as rows of text; each run bears the sentence of the document that it tests. */
final class Script {
    private Script() {
    }

    /** Gates of the pitches 19, 20 and so on; the left exit of each leads to the next one, all others to the bin 0. */
    static String chain(int size) {
        StringBuilder rows = new StringBuilder("gate(19)");
        for (int gate = 1; gate < size; gate++) {
            rows.append("; gate(" + (19 + gate) + "); lead(" + (gate - 1) + ", 0, " + gate + ")");
        }
        return rows.toString();
    }

    /** The same, but for the right exits: they lead to the next gate too. */
    static String straightChain(int size) {
        StringBuilder rows = new StringBuilder(chain(size));
        for (int gate = 1; gate < size; gate++) {
            rows.append("; lead(" + (gate - 1) + ", 1, " + gate + ")");
        }
        return rows.toString();
    }

    /** Each answer is as due, the model's too; a call that is refused changes nothing. */
    static void holds(String sentence, String... texts) {
        List<Row> rows = Row.parseAll(texts);
        Subject x = new Subject();
        Model model = new Model();
        for (int i = 0; i < rows.size(); i++) {
            Row row = rows.get(i);
            String name = sentence + " | call " + (i + 1) + ", " + row.text();
            String got = x.outcome(row.call(), row.arguments());
            String second = Checks.outcome(() -> model.call(row.call(), row.arguments()));
            if (row.due() == null) {
                Checks.due(name + " throws", got.endsWith("Exception") ? 1 : 0, 0);
            } else {
                Checks.dueText(name, got, row.due());
                Checks.dueText(name + ", the model", second, row.due());
            }
            if (row.isRefused()) {
                Checks.dueText(name + " changes nothing", Views.whole(rows.subList(0, i + 1)),
                        Views.whole(rows.subList(0, i)));
            }
        }
    }

    /** Each of the calls, made alone after the rows before it, changes nothing at all. */
    static void changeNothing(String sentence, String before, String... calls) {
        String due = Views.whole(Row.parse(before));
        for (String call : calls) {
            holds(sentence, before, call);
            Checks.dueText(sentence + " | " + call, Views.whole(Row.parseAll(before, call)), due);
        }
    }

    /** The last text is a call: it is saved, as one call, and undo brings back the whole state from before it. */
    static void isUndoable(String... texts) {
        String call = texts[texts.length - 1];
        holds("Undoable: " + call, texts);
        List<Row> after = Row.parseAll(texts);
        List<Row> before = new ArrayList<>(after.subList(0, after.size() - 1));
        int saved = saved(before);
        Checks.due("Undoable: " + call + ": saved states", saved(after), Math.min(saved + 1, 6));
        after.addAll(Row.parse("undo()"));
        Checks.due("Undoable: " + call + ": left after undo", saved(after), Math.min(saved, 5));
        Checks.dueText("Undoable: " + call + ": the state before", Views.state(after), Views.state(before));
    }

    /** Both runs of calls end in the same state. */
    static void endAlike(String sentence, String before, List<String> some, List<String> others) {
        List<Row> first = Row.parse(before);
        List<Row> second = Row.parse(before);
        some.forEach(text -> first.addAll(Row.parse(text)));
        others.forEach(text -> second.addAll(Row.parse(text)));
        Checks.dueText(sentence + " | " + some + " as " + others, Views.state(first), Views.state(second));
    }

    private static int saved(List<Row> rows) {
        Subject x = new Subject();
        for (Row row : rows) {
            x.outcome(row.call(), row.arguments());
        }
        return x.call("count", 10).intValue();
    }
}
