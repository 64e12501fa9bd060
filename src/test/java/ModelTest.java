import java.util.Random;

/** Long runs of calls, from fixed seeds, on ShellMoney and on Model: every answer must be the same. */
public final class ModelTest {
    private static final int RUNS = 600;
    private static final int CALLS = 512;

    /** What an argument is: the most of it, ordinarily. */
    private static final int OWNER = 9;
    private static final int GRADE = 4;
    private static final int MAKER = 9;

    private final Random random;
    private final ShellMoney real = new ShellMoney();
    private final Model model = new Model();
    /** Runs differ in how many OWNERS and NAMES they use, how long STRINGS are, how often years go. */
    private final int owners;
    private final int names;
    private final int lengths;
    private final int flavour;

    private ModelTest(long seed) {
        random = new Random(seed);
        owners = 1 + random.nextInt(random.nextBoolean() ? 2 : OWNER);
        names = 1 + random.nextInt(random.nextBoolean() ? 4 : 99);
        lengths = 1 + random.nextInt(random.nextBoolean() ? 8 : 80);
        flavour = random.nextInt(4);
    }

    public static void main(String[] args) {
        Check check = new Check();
        for (int seed = 0; seed < RUNS && check.wrong() < 5; seed++) {
            new ModelTest(seed).run(check, seed);
        }
        check.close();
    }

    private void run(Check check, int seed) {
        for (int k = 0; k < CALLS; k++) {
            String name = pickCall();
            int[] a = pickArguments(name);
            int before = check.wrong();
            check.due("seed " + seed + ", call " + k + ": " + Face.text(name, a),
                    Face.call(real, name, a), model.call(name, a));
            if (check.wrong() > before) {
                return;
            }
        }
    }

    private String pickCall() {
        String[][] calls = {
            {"string", "add", "cut", "join", "turn", "name", "give", "pay", "owe", "settle", "year",
                "set", "heap"},
            {"give", "name", "cut", "join", "pay", "settle", "give", "name", "string", "owe"},
            {"string", "pay", "serves", "serves", "set", "join", "name", "owe", "settle", "debt"},
            {"heap", "heap", "heap", "set", "set", "strung", "strings", "part", "string", "part"},
        };
        String[] asked = {
            "of", "of", "of", "bead", "bead", "named", "tale", "tale", "rate", "rich", "drawn", "cheat",
            "blame", "serves", "debt", "count", "count", "strung", "strings", "part",
        };
        if (random.nextInt(5) < 2) {
            return asked[random.nextInt(asked.length)];
        }
        String[] changing = calls[random.nextInt(3) == 0 ? 0 : flavour];
        return changing[random.nextInt(changing.length)];
    }

    /** A number of 0 to most, now and then one outside. */
    private int upTo(int most) {
        int chance = random.nextInt(120);
        if (chance == 0) {
            return -1;
        }
        if (chance == 1) {
            return most + 1;
        }
        if (chance == 2) {
            return random.nextInt();
        }
        return random.nextInt(Math.max(1, most + 1));
    }

    private int owner() {
        return upTo(owners);
    }

    private int string() {
        return upTo(model.call("count", new int[] {0}) - 1);
    }

    private int place(int string) {
        int length = model.call("of", new int[] {string, 0});
        return upTo(length == Check.THROWN ? 3 : length);
    }

    private int name() {
        return upTo(names);
    }

    private int sum(int owner) {
        int rich = model.call("rich", new int[] {owner});
        int most = Math.max(1, rich);
        return random.nextInt(4) == 0 ? upTo(most + 3) : upTo(most / 2 + 1);
    }

    private int[] pickArguments(String name) {
        int s = string();
        int owner = owner();
        switch (name) {
            case "string": return new int[] {owner, upTo(GRADE), upTo(MAKER), 1 + upTo(lengths - 1)};
            case "add": return new int[] {s, upTo(GRADE), upTo(MAKER), 1 + upTo(lengths - 1)};
            case "cut": return new int[] {s, place(s)};
            case "join": return new int[] {s, string()};
            case "name": return new int[] {s, name()};
            case "give": return new int[] {s, owner};
            case "of": return new int[] {s, upTo(6)};
            case "bead": return new int[] {s, place(s), upTo(1)};
            case "tale": return new int[] {name(), upTo(random.nextBoolean() ? 3 : 50), upTo(2)};
            case "set": return pickSetting();
            case "drawn": return new int[] {s, place(s), upTo(random.nextBoolean() ? 3 : lengths)};
            case "cheat": return new int[] {s, upTo(GRADE + 4)};
            case "serves": return new int[] {owner, sum(owner)};
            case "pay": return new int[] {owner, owner(), sum(owner)};
            case "owe": return new int[] {owner, owner(), pickSpans(), upTo(GRADE)};
            case "settle": return new int[] {upTo(model.call("count", new int[] {2}) - 1), s};
            case "debt": return new int[] {upTo(model.call("count", new int[] {2}) - 1), upTo(4)};
            case "heap": return new int[] {upTo(GRADE), upTo(random.nextBoolean() ? 15 : 60)};
            default: return pickOne(name, s, owner);
        }
    }

    private int[] pickOne(String name, int s, int owner) {
        switch (name) {
            case "turn": return new int[] {s};
            case "named": return new int[] {name()};
            case "rate":
            case "blame": return new int[] {upTo(GRADE)};
            case "rich": return new int[] {owner};
            case "count": return new int[] {upTo(7)};
            case "part": return new int[] {upTo(5)};
            default: return new int[0];
        }
    }

    private int pickSpans() {
        return random.nextBoolean() ? 1 + upTo(Math.max(0, lengths / 10 - 1)) : upTo(99);
    }

    private int[] pickSetting() {
        int[] most = {100, 500, 1000, 500, 1, 50};
        int what = upTo(5);
        int range = what >= 0 && what <= 5 ? most[what] : 10;
        // Small numbers make ties and floods; the ends of the range show its edges.
        int v = random.nextInt(3) == 0 ? upTo(range) : upTo(Math.min(range, 12));
        return new int[] {what, upTo(GRADE), v};
    }
}
