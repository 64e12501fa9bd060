import java.util.ArrayList;
import java.util.List;

/** A run of calls on one new object, under the words of the document that it tests. */
final class Run {
    private final Check check;
    private final String words;
    private final List<Row> played = new ArrayList<>();
    private final ShellMoney x = new ShellMoney();

    Run(Check check, String words) {
        this.check = check;
        this.words = words;
    }

    /** Plays the lines of a text, a call each; those that begin with # say why. */
    Run rows(String text) {
        text.lines().map(String::strip).filter(line -> !line.isEmpty() && !line.startsWith("#"))
                .forEach(line -> play(new Row(line)));
        return this;
    }

    Run times(int n, String line) {
        for (int k = 0; k < n; k++) {
            play(new Row(line));
        }
        return this;
    }

    /** Gives a NAMED STRING to and fro between OWNERS 8 and 9, until so many EVENTS are told. */
    Run tellEvents(int string, int events) {
        int told = x.count(5);
        played.add(new Row("count(5)"));
        int owner = Check.of(x, string, 1) == 8 ? 9 : 8;
        played.add(new Row("of(" + string + ", 1)"));
        for (int k = told; k < events; k++) {
            play(new Row("give(" + string + ", " + owner + ")"));
            owner = 17 - owner;
        }
        play(new Row("count(5) = " + events));
        return this;
    }

    private void play(Row row) {
        if (played.size() == Snapshot.MOST_CALLS) {
            throw new IllegalArgumentException(words + ": more than 512 calls");
        }
        List<String> before = row.changesNothing() ? Snapshot.behind(played) : null;
        int got = row.play(x);
        played.add(row);
        if (row.hasAnswerDue()) {
            check.due(words + ": " + row, got, row.answerDue());
        } else {
            check.due(words + ": " + row + " is not refused", got != row.refusal(), true);
        }
        if (before != null) {
            checkSame(row, before, Snapshot.behind(played));
        }
    }

    private void checkSame(Row row, List<String> before, List<String> after) {
        for (int k = 0; k < Math.min(before.size(), after.size()); k++) {
            if (!before.get(k).equals(after.get(k))) {
                check.due(words + ": " + row + " changes " + before.get(k) + " to " + after.get(k), true, false);
                return;
            }
        }
        check.due(words + ": " + row + ": what can be asked", after.size(), before.size());
    }
}
