import java.util.ArrayList;
import java.util.Arrays;
import java.util.List;

/**
 * Runs of calls on a new object, a row each: "lift 0 = 1" is a call with the answer that is due,
 * "lift 0 ! State" one that throws IllegalStateException (Index, Argument and State are known).
 *
 * <p>Beside the answers each run tells on its own whether a call that throws, or that only asks,
 * leaves the digest as it was, and whether undo() takes back each undoable call.
 */
final class Script {
    private static int wrong = 0;
    private static int checks = 0;

    private Script() {
    }

    /** One row, taken apart. */
    private static final class Row {
        final String text;
        final String name;
        final int[] args;
        final boolean isRefused;
        final String due;

        Row(String text) {
            this.text = text;
            isRefused = text.contains("!");
            String[] sides = text.split(isRefused ? "!" : "=");
            String[] words = sides[0].trim().split(" +");
            name = words[0];
            args = new int[words.length - 1];
            for (int i = 0; i < args.length; i++) {
                args[i] = Integer.parseInt(words[i + 1]);
            }
            due = sides[1].trim();
        }
    }

    static void run(String title, String... texts) {
        List<Row> rows = new ArrayList<>();
        for (String text : texts) {
            rows.add(new Row(text));
        }
        Party party = new Real();
        for (int i = 0; i < rows.size(); i++) {
            step(title, party, rows.get(i));
            if (Real.UNDOABLE.contains(rows.get(i).name) && !rows.get(i).isRefused) {
                checkUndo(title, rows, i);
            }
        }
    }

    private static void step(String title, Party party, Row row) {
        long before = party.call("digest");
        String answer = answer(party, row);
        String due = row.isRefused ? exceptionName(row.due) : row.due;
        due(title + ": " + row.text, due, answer);
        boolean changes = Real.UNDOABLE.contains(row.name) || row.name.equals("undo");
        if (row.isRefused || !changes) {
            due(title + ": " + row.text + ", the digest after it", before, party.call("digest"));
        }
    }

    private static String answer(Party party, Row row) {
        return answer(party, row.name, row.args);
    }

    static String answerRow(Party party, String text) {
        return answer(party, new Row(text));
    }

    /** The number, or the very class of what was thrown: one above or below it is another. */
    static String answer(Party party, String name, int... args) {
        try {
            return Long.toString(party.call(name, args));
        } catch (RuntimeException e) {
            return e.getClass().getSimpleName();
        }
    }

    private static String exceptionName(String shortName) {
        switch (shortName) {
            case "Index": return "IndexOutOfBoundsException";
            case "Argument": return "IllegalArgumentException";
            case "State": return "IllegalStateException";
            default: throw new AssertionError("no such exception: " + shortName);
        }
    }

    /** On a new object, so that the run itself goes on without this undo(). */
    private static void checkUndo(String title, List<Row> rows, int last) {
        Party party = new Real();
        for (int i = 0; i < last; i++) {
            answer(party, rows.get(i));
        }
        long before = party.call("digest") - savedStates(rows, last);
        answer(party, rows.get(last));
        long saved = party.call("undo");
        due(title + ": undo() after " + rows.get(last).text, before, party.call("digest") - saved);
        due(title + ": states saved after it", Math.min(3, savedStates(rows, last)), saved);
    }

    private static int savedStates(List<Row> rows, int end) {
        int saved = 0;
        for (Row row : rows.subList(0, end)) {
            if (!row.isRefused && Real.UNDOABLE.contains(row.name)) {
                saved = Math.min(4, saved + 1);
            } else if (!row.isRefused && row.name.equals("undo")) {
                saved--;
            }
        }
        return saved;
    }

    /** The rows of both lists, for runs that begin alike. */
    static String[] join(String[] first, String... second) {
        String[] all = Arrays.copyOf(first, first.length + second.length);
        System.arraycopy(second, 0, all, first.length, second.length);
        return all;
    }

    static void due(String what, Object due, Object got) {
        checks++;
        if (!due.equals(got)) {
            wrong++;
            System.out.println(what + ": answered " + got + ", due is " + due);
        }
    }

    static void due(String what, long due, long got) {
        due(what, Long.valueOf(due), Long.valueOf(got));
    }

    /** To be called last in each main. */
    static void end() {
        System.out.println(checks + " checks, " + wrong + " wrong");
        if (wrong != 0 || checks == 0) {
            System.exit(1);
        }
    }
}
