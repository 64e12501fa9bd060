import java.util.Arrays;

/**
 * A call and what is due of it, read from a line such as
 *   add(0, 2, 1, 30) = 80     this answer (a number, NONE, true or false)
 *   add(0, 2, 1, 31) refused  NONE, or false, and nothing has changed
 *   of(7, 0) throws           a NoSuchElementException, and nothing has changed
 *   serves(0, 5) keeps 6      this answer, and nothing has changed
 *   string(0, 2, 1, 50)       any answer but a refusal
 * LOW and HIGH stand for the least and the greatest int.
 */
final class Row {
    private final String line;
    private final String name;
    private final int[] arguments;
    private final String due;

    Row(String line) {
        this.line = line;
        int open = line.indexOf('(');
        int close = line.indexOf(')');
        if (open < 1 || close < open) {
            throw new IllegalArgumentException("no call: " + line);
        }
        name = line.substring(0, open).strip();
        String inside = line.substring(open + 1, close).strip();
        arguments = inside.isEmpty()
                ? new int[0]
                : Arrays.stream(inside.split(",")).mapToInt(Row::number).toArray();
        due = line.substring(close + 1).strip();
    }

    private static int number(String text) {
        switch (text.strip()) {
            case "NONE": return ShellMoney.NONE;
            case "true": return 1;
            case "false": return 0;
            case "LOW": return Integer.MIN_VALUE;
            case "HIGH": return Integer.MAX_VALUE;
            default: return Integer.parseInt(text.strip());
        }
    }

    int play(ShellMoney x) {
        return Face.call(x, name, arguments);
    }

    int play(Model model) {
        return model.call(name, arguments);
    }

    boolean hasAnswerDue() {
        return !due.isEmpty();
    }

    int answerDue() {
        if (due.equals("refused")) {
            return Face.refusal(name);
        }
        if (due.equals("throws")) {
            return Check.THROWN;
        }
        if (due.startsWith("=")) {
            return number(due.substring(1));
        }
        if (due.startsWith("keeps ")) {
            return number(due.substring(6));
        }
        throw new IllegalArgumentException("nothing due: " + line);
    }

    int refusal() {
        return name.equals("of") ? Check.THROWN : Face.refusal(name);
    }

    boolean changesNothing() {
        return hasAnswerDue() && !due.startsWith("=");
    }

    @Override
    public String toString() {
        return line;
    }
}
