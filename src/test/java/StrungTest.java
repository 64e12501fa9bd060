import java.util.ArrayList;
import java.util.Collections;
import java.util.List;
import java.util.Random;

/**
 * STRUNG by its own words (Terms 4): every way to cut the row is tried and held against the others,
 * on heaps small enough for that. Neither ShellMoney nor Model goes that way.
 */
public final class StrungTest {
    private static final int GRADES = 5;

    private final Check check;
    private final String words;
    private final ShellMoney x = new ShellMoney();
    private final int[] bonus = {0, 5, 10, 20, 40};
    private final int[] rate = new int[GRADES];
    private final List<Integer> row = new ArrayList<>();

    private StrungTest(Check check, String words) {
        this.check = check;
        this.words = words;
    }

    public static void main(String[] args) {
        Check check = new Check();
        for (int seed = 0; seed < 3000; seed++) {
            new StrungTest(check, "up to 12 BEADS, seed " + seed).fill(new Random(seed), 12).hold();
        }
        for (int seed = 3000; seed < 3040; seed++) {
            new StrungTest(check, "up to 20 BEADS, seed " + seed).fill(new Random(seed), 20).hold();
        }
        check.close();
    }

    /** Small and equal numbers make ties; a lesser GRADE may well have the greater RATE. */
    private StrungTest fill(Random random, int most) {
        boolean ordinary = random.nextInt(4) == 0;
        for (int grade = 0; grade < GRADES && !ordinary; grade++) {
            bonus[grade] = random.nextInt(random.nextBoolean() ? 4 : 30);
            x.set(0, grade, 1 + random.nextInt(random.nextBoolean() ? 2 : 6));
            x.set(1, grade, bonus[grade]);
        }
        // BEADS of STRINGS flood in, so that RATES and RATES NOW differ.
        for (int grade = 0; grade < GRADES; grade++) {
            x.set(2, grade, 10);
            x.string(0, grade, 0, 1 + random.nextInt(30));
            rate[grade] = x.rate(grade);
        }
        int[] heaped = new int[GRADES];
        int first = random.nextInt(GRADES);
        int grades = 1 + random.nextInt(GRADES);
        for (int k = random.nextInt(3); k < most; k++) {
            heaped[(first + random.nextInt(grades)) % GRADES]++;
        }
        for (int grade = GRADES - 1; grade >= 0; grade--) {
            x.heap(grade, heaped[grade]);
            row.addAll(Collections.nCopies(heaped[grade], grade));
        }
        return this;
    }

    private void hold() {
        List<Integer> best = bestCut();
        check.due(words + ": strung()", x.strung(), worth(best));
        check.due(words + ": strings()", x.strings(), best.size());
        for (int i = 0; i < best.size(); i++) {
            check.due(words + ": part(" + i + ")", x.part(i), best.get(i));
        }
        check.due(words + ": part behind the last", x.part(best.size()), ShellMoney.NONE);
    }

    private List<Integer> bestCut() {
        List<Integer> best = parts(0);
        int most = worth(best);
        for (int cuts = 1; cuts < 1 << Math.max(0, row.size() - 1); cuts++) {
            int worth = worth(cuts);
            if (worth < most) {
                continue;
            }
            List<Integer> found = parts(cuts);
            if (worth > most || comesFirst(found, best)) {
                most = worth;
                best = found;
            }
        }
        return best;
    }

    /** Of as much WORTH: the fewest STRINGS, then the longest first one, and so on. */
    private static boolean comesFirst(List<Integer> a, List<Integer> b) {
        if (a.size() != b.size()) {
            return a.size() < b.size();
        }
        for (int i = 0; i < a.size(); i++) {
            if (!a.get(i).equals(b.get(i))) {
                return a.get(i) > b.get(i);
            }
        }
        return false;
    }

    /** Bit k of the cuts: the row is cut behind its BEAD k. */
    private List<Integer> parts(int cuts) {
        List<Integer> parts = new ArrayList<>();
        int from = 0;
        for (int i = 0; i < row.size(); i++) {
            if (i == row.size() - 1 || (cuts >> i & 1) == 1) {
                parts.add(i + 1 - from);
                from = i + 1;
            }
        }
        return parts;
    }

    private int worth(int cuts) {
        int worth = 0;
        int from = 0;
        int least = GRADES;
        for (int i = 0; i < row.size(); i++) {
            least = Math.min(least, row.get(i));
            if (i == row.size() - 1 || (cuts >> i & 1) == 1) {
                worth += worthOfPart(least, i + 1 - from);
                from = i + 1;
                least = GRADES;
            }
        }
        return worth;
    }

    private int worth(List<Integer> parts) {
        int worth = 0;
        int from = 0;
        for (int n : parts) {
            int least = row.subList(from, from + n).stream().mapToInt(g -> g).min().getAsInt();
            worth += worthOfPart(least, n);
            from += n;
        }
        return worth;
    }

    private int worthOfPart(int least, int n) {
        return n * rate[least] + n / 10 * bonus[least];
    }
}
