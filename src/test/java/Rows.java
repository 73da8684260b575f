import java.util.ArrayList;
import java.util.List;

/** Rows of a Script, put together piece by piece. */
final class Rows {
    private final List<String> rows = new ArrayList<>();

    Rows add(String... more) {
        rows.addAll(List.of(more));
        return this;
    }

    void run(String title) {
        Script.run(title, rows.toArray(new String[0]));
    }

    /** The calls alone, without looking at their answers. */
    void bring(Party party) {
        for (String row : rows) {
            Script.answerRow(party, row);
        }
    }
}
