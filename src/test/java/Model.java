import java.util.ArrayList;
import java.util.Arrays;
import java.util.Collections;
import java.util.List;
import java.util.TreeSet;

/**
 * The document once more, as plainly as it reads and with the Java library: everything is counted
 * anew for each call, payments are found by trying every set, and the heap is strung from its
 * front on with whole rows of parts held against each other.
 */
final class Model {
    private static final int NONE = -1;
    private static final int REFUSED = 0;
    private static final int TRUE = 1;

    private static final class Row {
        final List<int[]> beads = new ArrayList<>();
        int owner;
        int name;
    }

    private final List<Row> rows = new ArrayList<>();
    private final List<int[]> events = new ArrayList<>();
    private final List<int[]> debts = new ArrayList<>();
    private final int[][] settings = {
        {1, 2, 4, 7, 11}, {0, 5, 10, 20, 40}, {50, 50, 50, 50, 50}, {25}, {1}, {10},
    };
    private final int[] heap = new int[5];
    private int year = 0;

    /** The answer of a call by its name; a boolean counts 1 or 0. */
    int call(String name, int[] a) {
        switch (name) {
            case "string": return string(a[0], a[1], a[2], a[3]);
            case "add": return add(a[0], a[1], a[2], a[3]);
            case "cut": return cut(a[0], a[1]);
            case "join": return join(a[0], a[1]);
            case "turn": return turn(a[0]);
            case "name": return name(a[0], a[1]);
            case "give": return give(a[0], a[1]);
            case "of": return of(a[0], a[1]);
            case "bead": return bead(a[0], a[1], a[2]);
            case "named": return named(a[0]);
            case "tale": return tale(a[0], a[1], a[2]);
            case "set": return set(a[0], a[1], a[2]);
            case "rate": return within(a[0], 0, 4) ? rate(a[0]) : NONE;
            case "rich": return within(a[0], 0, 9) ? rich(a[0]) : NONE;
            case "drawn": return drawn(a[0], a[1], a[2]);
            case "cheat": return cheat(a[0], a[1]);
            case "blame": return blame(a[0]);
            case "serves": return serves(a[0], a[1]);
            case "pay": return pay(a[0], a[1], a[2]);
            case "owe": return owe(a[0], a[1], a[2], a[3]);
            case "settle": return settle(a[0], a[1]);
            case "debt": return debt(a[0], a[1]);
            case "year": return year();
            case "count": return count(a[0]);
            case "heap": return heap(a[0], a[1]);
            case "strung": return worthOfParts(strung(), gradesOfHeap(), ratesNow());
            case "strings": return strung().size();
            case "part": return within(a[0], 0, strung().size() - 1) ? strung().get(a[0]) : NONE;
            default: throw new IllegalArgumentException(name);
        }
    }

    private static boolean within(int v, int least, int most) {
        return v >= least && v <= most;
    }

    private Row row(int i) {
        return within(i, 0, rows.size() - 1) ? rows.get(i) : null;
    }

    private Row living(int i) {
        Row r = row(i);
        return r == null || r.beads.isEmpty() ? null : r;
    }

    private boolean full(int more) {
        return more > 0 && events.size() + more > 200;
    }

    private void event(int name, int which, int number) {
        events.add(new int[] {name, which, number, year});
    }

    private static boolean beads(int grade, int maker, int n) {
        return within(grade, 0, 4) && within(maker, 0, 9) && within(n, 1, 80);
    }

    private int string(int owner, int grade, int maker, int n) {
        if (!within(owner, 0, 9) || !beads(grade, maker, n) || rows.size() == 40) {
            return NONE;
        }
        Row r = new Row();
        r.owner = owner;
        r.beads.addAll(Collections.nCopies(n, new int[] {grade, maker}));
        rows.add(r);
        return rows.size() - 1;
    }

    private int add(int string, int grade, int maker, int n) {
        Row r = living(string);
        if (r == null || !beads(grade, maker, n) || r.beads.size() + n > 80) {
            return NONE;
        }
        r.beads.addAll(Collections.nCopies(n, new int[] {grade, maker}));
        return r.beads.size();
    }

    private int cut(int string, int i) {
        Row r = living(string);
        if (r == null || !within(i, 1, r.beads.size() - 1) || rows.size() == 40
                || full(r.name > 0 ? 1 : 0)) {
            return NONE;
        }
        Row rest = new Row();
        rest.owner = r.owner;
        List<int[]> tail = r.beads.subList(i, r.beads.size());
        rest.beads.addAll(tail);
        tail.clear();
        rows.add(rest);
        int name = r.name;
        if (name > 0 && settings[4][0] == 1) {
            if (rest.beads.size() > r.beads.size()) {
                rest.name = name;
                r.name = 0;
                event(name, 3, rest.beads.size());
            } else {
                event(name, 3, r.beads.size());
            }
        } else if (name > 0) {
            r.name = 0;
            event(name, 5, 0);
        }
        return rows.size() - 1;
    }

    private int join(int a, int b) {
        Row r = living(a);
        Row s = living(b);
        if (r == null || s == null || r == s || r.owner != s.owner
                || r.beads.size() + s.beads.size() > 80) {
            return NONE;
        }
        if (full((r.name > 0 ? 1 : 0) + (s.name > 0 ? 1 : 0))) {
            return NONE;
        }
        r.beads.addAll(s.beads);
        s.beads.clear();
        if (r.name > 0 && s.name > 0) {
            event(s.name, 5, 0);
        }
        if (r.name == 0) {
            r.name = s.name;
        }
        if (r.name > 0) {
            event(r.name, 4, r.beads.size());
        }
        s.name = 0;
        return r.beads.size();
    }

    private int turn(int string) {
        Row r = living(string);
        if (r == null) {
            return REFUSED;
        }
        Collections.reverse(r.beads);
        return TRUE;
    }

    private int name(int string, int name) {
        Row r = living(string);
        if (r == null || !within(name, 1, 99) || named(name) != NONE || full(r.name > 0 ? 2 : 1)) {
            return REFUSED;
        }
        if (r.name > 0) {
            event(r.name, 5, 0);
        }
        r.name = name;
        event(name, 1, r.owner);
        return TRUE;
    }

    private int give(int string, int owner) {
        Row r = living(string);
        if (r == null || !within(owner, 0, 9) || r.owner == owner || full(r.name > 0 ? 1 : 0)) {
            return REFUSED;
        }
        hand(r, owner);
        return TRUE;
    }

    private void hand(Row r, int owner) {
        r.owner = owner;
        if (r.name > 0) {
            event(r.name, 2, owner);
        }
    }

    private int of(int string, int what) {
        Row r = row(string);
        if (r == null || !within(what, 0, 6)) {
            return Check.THROWN;
        }
        TreeSet<Integer> makers = new TreeSet<>();
        for (int[] bead : r.beads) {
            makers.add(bead[1]);
        }
        int[] answers = {
            r.beads.size(), r.owner, r.name, least(r.beads), worth(r), r.beads.size() / 10, makers.size(),
        };
        return answers[what];
    }

    private static int least(List<int[]> beads) {
        return beads.stream().mapToInt(bead -> bead[0]).min().orElse(NONE);
    }

    private int worth(Row r) {
        if (r.beads.isEmpty()) {
            return 0;
        }
        return worth(least(r.beads), r.beads.size()) + (r.name > 0 ? settings[3][0] : 0);
    }

    private int worth(int grade, int n) {
        return n * rate(grade) + n / 10 * settings[1][grade];
    }

    private int rate(int grade) {
        int found = 0;
        for (Row r : rows) {
            for (int[] bead : r.beads) {
                found += bead[0] == grade ? 1 : 0;
            }
        }
        return Math.max(1, settings[0][grade] - found / settings[2][grade]);
    }

    private int bead(int string, int i, int what) {
        Row r = row(string);
        if (r == null || !within(i, 0, r.beads.size() - 1) || !within(what, 0, 1)) {
            return NONE;
        }
        return r.beads.get(i)[what];
    }

    private int named(int name) {
        for (int i = 0; i < rows.size() && within(name, 1, 99); i++) {
            if (rows.get(i).name == name) {
                return i;
            }
        }
        return NONE;
    }

    private int tale(int name, int i, int what) {
        List<int[]> tale = new ArrayList<>();
        for (int[] event : events) {
            if (event[0] == name) {
                tale.add(event);
            }
        }
        return within(i, 0, tale.size() - 1) && within(what, 0, 2) ? tale.get(i)[what + 1] : NONE;
    }

    private int set(int what, int grade, int v) {
        int[] least = {1, 0, 1, 0, 0, 0};
        int[] most = {100, 500, 1000, 500, 1, 50};
        if (!within(what, 0, 5) || !within(v, least[what], most[what])
                || what < 3 && !within(grade, 0, 4)) {
            return NONE;
        }
        int place = what < 3 ? grade : 0;
        int was = settings[what][place];
        settings[what][place] = v;
        return was;
    }

    private int rich(int owner) {
        return rows.stream().filter(r -> r.owner == owner).mapToInt(this::worth).sum();
    }

    private int drawn(int string, int i, int n) {
        Row r = row(string);
        if (r == null || i < 0 || n < 1 || (long) i + n > r.beads.size()) {
            return NONE;
        }
        return least(r.beads.subList(i, i + n));
    }

    private int cheat(int string, int grade) {
        Row r = row(string);
        for (int i = 0; r != null && i < r.beads.size(); i++) {
            if (r.beads.get(i)[0] < grade) {
                return i;
            }
        }
        return NONE;
    }

    private int blame(int grade) {
        if (!within(grade, 0, 4)) {
            return NONE;
        }
        int[] made = new int[10];
        for (Row r : rows) {
            for (int[] bead : r.beads) {
                made[bead[1]] += bead[0] < grade ? 1 : 0;
            }
        }
        int most = Arrays.stream(made).max().getAsInt();
        for (int maker = 0; maker < 10 && most > 0; maker++) {
            if (made[maker] == most) {
                return maker;
            }
        }
        return NONE;
    }

    private List<Row> purse(int owner) {
        List<Row> purse = new ArrayList<>();
        for (Row r : rows) {
            if (r.owner == owner && !r.beads.isEmpty()) {
                purse.add(r);
            }
        }
        return purse;
    }

    private static int sum(int bits, int[] worths) {
        int worth = 0;
        for (int k = 0; k < worths.length; k++) {
            worth += (bits & 1 << k) != 0 ? worths[k] : 0;
        }
        return worth;
    }

    /** The bits of the PAYMENT, 0 if all together have less. */
    private static int payment(int[] worths, int sum) {
        int best = 0;
        long bestKey = Long.MAX_VALUE;
        for (int bits = 1; bits < 1 << worths.length; bits++) {
            long worth = sum(bits, worths);
            long key = (worth * 100 + Integer.bitCount(bits)) * 10000 + bits;
            if (worth >= sum && key < bestKey) {
                bestKey = key;
                best = bits;
            }
        }
        return best;
    }

    private int serves(int owner, int sum) {
        List<Row> purse = purse(owner);
        if (!within(owner, 0, 9) || !within(sum, 1, 1000000) || purse.size() > 12) {
            return NONE;
        }
        int[] worths = purse.stream().mapToInt(this::worth).toArray();
        int bits = payment(worths, sum);
        return bits == 0 ? -2 : sum(bits, worths);
    }

    private int pay(int owner, int to, int sum) {
        if (!within(to, 0, 9) || owner == to) {
            return NONE;
        }
        int worth = serves(owner, sum);
        if (worth < 0) {
            return worth;
        }
        List<Row> purse = purse(owner);
        int bits = payment(purse.stream().mapToInt(this::worth).toArray(), sum);
        List<Row> given = new ArrayList<>();
        for (int k = 0; k < purse.size(); k++) {
            if ((bits & 1 << k) != 0) {
                given.add(purse.get(k));
            }
        }
        if (full((int) given.stream().filter(r -> r.name > 0).count())) {
            return NONE;
        }
        given.forEach(r -> hand(r, to));
        return worth - sum;
    }

    private int owe(int owner, int to, int spans, int grade) {
        if (!within(owner, 0, 9) || !within(to, 0, 9) || owner == to || !within(spans, 1, 99)
                || !within(grade, 0, 4) || debts.size() == 60) {
            return NONE;
        }
        debts.add(new int[] {owner, to, spans, grade, NONE});
        return debts.size() - 1;
    }

    private int settle(int debt, int string) {
        Row r = living(string);
        if (r == null || !within(debt, 0, debts.size() - 1)) {
            return REFUSED;
        }
        int[] d = debts.get(debt);
        if (d[4] != NONE || r.owner != d[0] || r.beads.size() / 10 < d[2] || least(r.beads) < d[3]
                || full(r.name > 0 ? 1 : 0)) {
            return REFUSED;
        }
        hand(r, d[1]);
        d[2] = 0;
        d[4] = year;
        return TRUE;
    }

    private int debt(int debt, int what) {
        return within(debt, 0, debts.size() - 1) && within(what, 0, 4) ? debts.get(debt)[what] : NONE;
    }

    private int year() {
        if (year == 100) {
            return NONE;
        }
        year++;
        for (int[] d : debts) {
            d[2] = Math.min(10000, d[2] + d[2] * settings[5][0] / 100);
        }
        return year;
    }

    private int count(int what) {
        int[] answers = {
            rows.size(),
            (int) rows.stream().filter(r -> r.beads.isEmpty()).count(),
            debts.size(),
            (int) debts.stream().filter(d -> d[4] != NONE).count(),
            year,
            events.size(),
            rows.stream().mapToInt(r -> r.beads.size()).sum(),
            Arrays.stream(heap).sum(),
        };
        return within(what, 0, 7) ? answers[what] : NONE;
    }

    private int heap(int grade, int n) {
        if (!within(grade, 0, 4) || !within(n, 0, 60) || Arrays.stream(heap).sum() - heap[grade] + n > 60) {
            return REFUSED;
        }
        heap[grade] = n;
        return TRUE;
    }

    private List<Integer> gradesOfHeap() {
        List<Integer> grades = new ArrayList<>();
        for (int grade = 4; grade >= 0; grade--) {
            grades.addAll(Collections.nCopies(heap[grade], grade));
        }
        return grades;
    }

    private int[] ratesNow() {
        return new int[] {rate(0), rate(1), rate(2), rate(3), rate(4)};
    }

    private int worthOfParts(List<Integer> parts, List<Integer> grades, int[] rates) {
        int worth = 0;
        int from = 0;
        for (int n : parts) {
            int least = Collections.min(grades.subList(from, from + n));
            worth += n * rates[least] + n / 10 * settings[1][least];
            from += n;
        }
        return worth;
    }

    /** From the front to the end: the best way to cut each number of first BEADS, as rows of parts. */
    private List<Integer> strung() {
        List<Integer> grades = gradesOfHeap();
        int[] rates = ratesNow();
        List<List<Integer>> best = new ArrayList<>();
        best.add(new ArrayList<>());
        for (int end = 1; end <= grades.size(); end++) {
            List<Integer> found = null;
            for (int from = 0; from < end; from++) {
                List<Integer> parts = new ArrayList<>(best.get(from));
                parts.add(end - from);
                if (found == null || isBetter(parts, found, worthOfParts(parts, grades, rates),
                        worthOfParts(found, grades, rates))) {
                    found = parts;
                }
            }
            best.add(found);
        }
        return best.get(grades.size());
    }

    private static boolean isBetter(List<Integer> parts, List<Integer> than, int worth, int worthThan) {
        if (worth != worthThan) {
            return worth > worthThan;
        }
        if (parts.size() != than.size()) {
            return parts.size() < than.size();
        }
        for (int k = 0; k < parts.size(); k++) {
            if (!parts.get(k).equals(than.get(k))) {
                return parts.get(k) > than.get(k);
            }
        }
        return false;
    }
}
