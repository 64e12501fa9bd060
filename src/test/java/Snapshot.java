import java.util.ArrayList;
import java.util.List;

/**
 * Everything that can be asked of an object behind a run of calls. The run is played anew on another
 * object whenever 512 calls are used up, since the document promises nothing of later ones.
 */
final class Snapshot {
    static final int MOST_CALLS = 512;

    private static final int OWNERS = 10;
    private static final int GRADES = 5;
    private static final int LAST_NAME = 99;
    private static final int SETTINGS = 3 * GRADES + 3;

    private final List<Row> run;
    private final List<String> answers = new ArrayList<>();
    private ShellMoney x;
    private int used = MOST_CALLS;

    private Snapshot(List<Row> run) {
        this.run = run;
    }

    static List<String> behind(List<Row> run) {
        if (run.size() > MOST_CALLS - SETTINGS) {
            throw new IllegalArgumentException("a run of " + run.size() + " calls leaves none to ask with");
        }
        Snapshot s = new Snapshot(run);
        s.askCounts();
        s.askStrings();
        s.askTales();
        s.askWorth();
        s.askDebts();
        s.askHeap();
        s.askSettings();
        return s.answers;
    }

    private int ask(String name, int... a) {
        makeRoom(1);
        used++;
        int got = Face.call(x, name, a);
        answers.add(Face.text(name, a) + " = " + got);
        return got;
    }

    private void makeRoom(int calls) {
        if (used + calls <= MOST_CALLS) {
            return;
        }
        x = new ShellMoney();
        for (Row row : run) {
            row.play(x);
        }
        used = run.size();
    }

    private void askCounts() {
        for (int what = 0; what <= 7; what++) {
            ask("count", what);
        }
    }

    private void askStrings() {
        int strings = ask("count", 0);
        for (int s = 0; s < strings; s++) {
            for (int what = 0; what <= 6; what++) {
                ask("of", s, what);
            }
            int beads = ask("of", s, 0);
            for (int i = 0; i < beads; i++) {
                ask("bead", s, i, 0);
                ask("bead", s, i, 1);
            }
        }
    }

    private void askTales() {
        for (int name = 1; name <= LAST_NAME; name++) {
            ask("named", name);
            for (int i = 0; ask("tale", name, i, 0) != ShellMoney.NONE; i++) {
                ask("tale", name, i, 1);
                ask("tale", name, i, 2);
            }
        }
    }

    private void askWorth() {
        for (int grade = 0; grade < GRADES; grade++) {
            ask("rate", grade);
            ask("blame", grade);
        }
        for (int owner = 0; owner < OWNERS; owner++) {
            int rich = ask("rich", owner);
            ask("serves", owner, 1);
            ask("serves", owner, rich / 2 + 1);
        }
    }

    private void askDebts() {
        int debts = ask("count", 2);
        for (int d = 0; d < debts; d++) {
            for (int what = 0; what <= 4; what++) {
                ask("debt", d, what);
            }
        }
    }

    private void askHeap() {
        ask("strung");
        int parts = ask("strings");
        for (int i = 0; i < parts; i++) {
            ask("part", i);
        }
    }

    /** Comes last, and on one object: set(..) alone tells a setting, and changes it. */
    private void askSettings() {
        makeRoom(SETTINGS);
        for (int grade = 0; grade < GRADES; grade++) {
            ask("set", 0, grade, 1);
            ask("set", 1, grade, 1);
            ask("set", 2, grade, 1);
        }
        ask("set", 3, 0, 1);
        ask("set", 4, 0, 1);
        ask("set", 5, 0, 1);
    }
}
