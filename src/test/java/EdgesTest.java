import java.util.ArrayList;
import java.util.List;
import java.util.Set;

/**
 * Every call with every choice of numbers at the edges, in states at the document's limits: nothing
 * but of(..) throws, and the answers are those of Model.
 */
public final class EdgesTest {
    private static final int LOW = Integer.MIN_VALUE;
    private static final int HIGH = Integer.MAX_VALUE;

    private static final int[] OWNER = {LOW, -1, 0, 1, 9, 10, HIGH};
    private static final int[] GRADE = {LOW, -1, 0, 2, 4, 5, HIGH};
    private static final int[] MAKER = {LOW, -1, 0, 9, 10, HIGH};
    private static final int[] BEADS = {LOW, -1, 0, 1, 2, 30, 31, 79, 80, 81, HIGH};
    private static final int[] STRING = {LOW, -1, 0, 1, 2, 3, 4, 38, 39, 40, HIGH};
    private static final int[] PLACE = {LOW, -1, 0, 1, 2, 9, 10, 11, 78, 79, 80, 81, HIGH};
    private static final int[] NAME = {LOW, -1, 0, 1, 2, 50, 98, 99, 100, HIGH};
    private static final int[] EVENT = {LOW, -1, 0, 1, 2, 195, 196, 197, 198, 199, 200, HIGH};
    private static final int[] WHAT = {LOW, -1, 0, 1, 2, 3, 4, 5, 6, 7, 8, HIGH};
    private static final int[] SETTING = {
        LOW, -1, 0, 1, 2, 49, 50, 51, 99, 100, 101, 499, 500, 501, 999, 1000, 1001, HIGH,
    };
    private static final int[] SUM = {LOW, -1, 0, 1, 2, 12, 13, 14, 1000, 999999, 1000000, 1000001, HIGH};
    private static final int[] SPANS = {LOW, -1, 0, 1, 2, 98, 99, 100, HIGH};
    private static final int[] DEBT = {LOW, -1, 0, 1, 2, 58, 59, 60, HIGH};
    private static final int[] HEAPED = {LOW, -1, 0, 1, 2, 10, 11, 59, 60, 61, HIGH};
    private static final int[] PART = {LOW, -1, 0, 1, 2, 3, 4, 5, 59, 60, 61, HIGH};

    private static final Set<String> ASKING = Set.of("of", "bead", "named", "tale", "rate", "rich", "drawn",
            "cheat", "blame", "serves", "debt", "count", "strung", "strings", "part");

    private final Check check;
    private final String state;
    private final List<Row> rows = new ArrayList<>();
    private ShellMoney real;
    private Model model;
    private int used;

    private EdgesTest(Check check, String state) {
        this.check = check;
        this.state = state;
    }

    public static void main(String[] args) {
        Check check = new Check();
        new EdgesTest(check, "a new object").callAll();
        ordinary(check).callAll();
        fortyStrings(check).callAll();
        fullTales(check, 199).callAll();
        fullTales(check, 200).callAll();
        lastYear(check).callAll();
        thirteenStrings(check).callAll();
        check.close();
    }

    private static EdgesTest ordinary(Check check) {
        return new EdgesTest(check, "a few STRINGS")
                .with(1, "string(0, 4, 0, 50)").with(1, "add(0, 2, 9, 30)").with(1, "string(0, 0, 3, 50)")
                .with(1, "string(1, 3, 3, 10)").with(1, "string(1, 1, 3, 1)").with(1, "join(2, 3)")
                .with(1, "name(0, 1)").with(1, "name(1, 99)").with(1, "owe(0, 1, 2, 1)")
                .with(1, "owe(1, 0, 1, 1)").with(1, "heap(4, 10)").with(1, "heap(2, 39)");
    }

    private static EdgesTest fortyStrings(Check check) {
        return new EdgesTest(check, "40 STRINGS")
                .with(2, "string(9, 4, 0, 80)").with(36, "string(1, 2, 9, 11)").with(2, "string(0, 0, 1, 2)")
                .with(1, "join(38, 39)").with(1, "name(0, 50)").with(1, "heap(3, 60)");
    }

    private static EdgesTest fullTales(Check check, int events) {
        EdgesTest test = new EdgesTest(check, events + " EVENTS")
                .with(1, "string(9, 0, 0, 10)").with(2, "string(0, 1, 0, 10)").with(1, "string(0, 1, 0, 10)")
                .with(1, "name(0, 1)").with(1, "name(1, 2)").with(1, "name(2, 99)").with(1, "owe(0, 1, 1, 0)");
        for (int told = 3; told < events; told++) {
            test.with(1, told % 2 == 0 ? "give(0, 9)" : "give(0, 8)");
        }
        return test;
    }

    private static EdgesTest lastYear(Check check) {
        return new EdgesTest(check, "YEAR 100, 60 DEBTS")
                .with(59, "owe(0, 1, 99, 4)").with(100, "year()").with(1, "owe(9, 0, 1, 4)")
                .with(2, "string(9, 4, 1, 10)").with(1, "name(1, 98)");
    }

    private static EdgesTest thirteenStrings(Check check) {
        return new EdgesTest(check, "12 STRINGS and 13")
                .with(12, "string(0, 0, 1, 1)").with(13, "string(1, 0, 1, 1)").with(1, "name(3, 50)");
    }

    private EdgesTest with(int times, String line) {
        for (int k = 0; k < times; k++) {
            rows.add(new Row(line));
        }
        return this;
    }

    private void callAll() {
        call("string", OWNER, GRADE, MAKER, BEADS);
        call("add", STRING, GRADE, MAKER, BEADS);
        call("cut", STRING, PLACE);
        call("join", STRING, STRING);
        call("turn", STRING);
        call("name", STRING, NAME);
        call("give", STRING, OWNER);
        call("of", STRING, WHAT);
        call("bead", STRING, PLACE, WHAT);
        call("named", NAME);
        call("tale", NAME, EVENT, WHAT);
        call("set", WHAT, GRADE, SETTING);
        call("rate", GRADE);
        call("rich", OWNER);
        call("drawn", STRING, PLACE, PLACE);
        call("cheat", STRING, GRADE);
        call("blame", GRADE);
        call("serves", OWNER, SUM);
        call("pay", OWNER, OWNER, SUM);
        call("owe", OWNER, OWNER, SPANS, GRADE);
        call("settle", DEBT, STRING);
        call("debt", DEBT, WHAT);
        call("year");
        call("count", WHAT);
        call("heap", GRADE, HEAPED);
        call("strung");
        call("strings");
        call("part", PART);
    }

    /** Goes through all choices, each a number of which the places are in the lists of edges. */
    private void call(String name, int[]... edges) {
        makeObjects();
        int choices = 1;
        for (int[] e : edges) {
            choices *= e.length;
        }
        for (int choice = 0; choice < choices; choice++) {
            int[] a = new int[edges.length];
            int rest = choice;
            for (int k = 0; k < edges.length; k++) {
                a[k] = edges[k][rest % edges[k].length];
                rest /= edges[k].length;
            }
            callOnce(name, a);
        }
    }

    private void callOnce(String name, int[] a) {
        if (used == Snapshot.MOST_CALLS) {
            makeObjects();
        }
        used++;
        int got = Face.call(real, name, a);
        check.due(state + ": " + Face.text(name, a), got, model.call(name, a));
        // What a call has changed would be in the way of the next ones.
        if (!ASKING.contains(name) && got != Face.refusal(name)) {
            makeObjects();
        }
    }

    private void makeObjects() {
        real = new ShellMoney();
        model = new Model();
        for (Row row : rows) {
            int got = row.play(real);
            check.due(state + ": " + row, got, row.play(model));
            check.due(state + ": " + row + " is not refused", got != row.refusal(), true);
        }
        used = rows.size();
    }
}
