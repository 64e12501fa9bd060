import java.util.NoSuchElementException;

/** Counts and prints the answers that are not as due. */
final class Check {
    /** Stands for an answer of of(..) that is a NoSuchElementException. */
    static final int THROWN = Integer.MIN_VALUE;

    private int rows = 0;
    private int wrong = 0;

    void due(String what, int got, int want) {
        rows++;
        if (got != want) {
            wrong++;
            System.out.println(what + " answered " + got + ", due is " + want);
        }
    }

    void due(String what, boolean got, boolean want) {
        due(what, got ? 1 : 0, want ? 1 : 0);
    }

    static int of(ShellMoney x, int string, int what) {
        try {
            return x.of(string, what);
        } catch (NoSuchElementException e) {
            return THROWN;
        }
    }

    int wrong() {
        return wrong;
    }

    void close() {
        System.out.println(wrong == 0
                ? rows + " answers are as due"
                : wrong + " of " + rows + " answers are not as due");
        if (wrong != 0) {
            System.exit(1);
        }
    }
}
