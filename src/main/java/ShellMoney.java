import java.util.NoSuchElementException;

/** Money of shell; what each call promises stands in the document, by the numbers of its promises. */
public final class ShellMoney {
    public static final int NONE = -1;

    private static final int TOO_LITTLE = -2;

    private static final int OWNERS = 10;
    private static final int GRADES = 5;
    private static final int MAKERS = 10;
    private static final int LAST_NAME = 99;
    private static final int NO_NAME = 0;
    private static final int SPAN = 10;
    private static final int MOST_BEADS = 80;
    private static final int MOST_STRINGS = 40;
    private static final int MOST_EVENTS = 200;
    private static final int MOST_TO_PAY_WITH = 12;
    private static final int MOST_SUM = 1000000;
    private static final int MOST_DEBTS = 60;
    private static final int MOST_SPANS_OWED = 99;
    private static final int MOST_SPANS_GROWN = 10000;
    private static final int LAST_YEAR = 100;
    private static final int MOST_HEAPED = 60;

    private static final int EVENT_NAMED = 1;
    private static final int EVENT_GIVEN = 2;
    private static final int EVENT_CUT = 3;
    private static final int EVENT_JOINED = 4;
    private static final int EVENT_LOST = 5;

    private static final int[] FIRST_RATES = {1, 2, 4, 7, 11};
    private static final int[] FIRST_BONUSES = {0, 5, 10, 20, 40};
    private static final int[] FIRST_FLOODS = {50, 50, 50, 50, 50};

    private final Strand[] strands = new Strand[MOST_STRINGS];
    private int strandCount = 0;
    // One row for every blame(): a call makes no objects that way.
    private final int[] madeBelow = new int[MAKERS];
    private final Rates rates = new Rates();
    private final Tales tales = new Tales();
    private final Purse purse = new Purse();
    private final Debt[] debts = new Debt[MOST_DEBTS];
    private int debtCount = 0;
    private final Heap theHeap = new Heap();
    private int custom = 1;
    private int interest = 10;
    private int yearNow = 0;

    public ShellMoney() {
    }

    // ---- strings

    public int string(int owner, int grade, int maker, int n) {
        if (!isOwner(owner) || !areBeads(grade, maker, n) || strandCount >= MOST_STRINGS) {
            return NONE;
        }
        Strand made = new Strand(owner);
        made.append(grade, maker, n);
        rates.flowIn(grade, n);
        return keepStrand(made);
    }

    public int add(int string, int grade, int maker, int n) {
        Strand s = livingStrand(string);
        if (s == null || !areBeads(grade, maker, n) || s.length + n > MOST_BEADS) {
            return NONE;
        }
        s.append(grade, maker, n);
        rates.flowIn(grade, n);
        return s.length;
    }

    public int cut(int string, int i) {
        Strand s = livingStrand(string);
        if (s == null || i < 1 || i >= s.length || strandCount >= MOST_STRINGS) {
            return NONE;
        }
        if (!tales.hasRoom(nameCount(s))) {
            return NONE;
        }
        Strand rest = new Strand(s.owner);
        rest.appendFrom(s, i);
        s.length = i;
        if (s.name != NO_NAME) {
            settleNameOfCut(s, rest);
        }
        return keepStrand(rest);
    }

    public int join(int a, int b) {
        Strand first = livingStrand(a);
        Strand second = livingStrand(b);
        if (first == null || second == null || a == b || first.owner != second.owner) {
            return NONE;
        }
        if (first.length + second.length > MOST_BEADS
                || !tales.hasRoom(nameCount(first) + nameCount(second))) {
            return NONE;
        }
        first.appendFrom(second, 0);
        second.length = 0;
        settleNameOfJoined(first, second);
        return first.length;
    }

    public boolean turn(int string) {
        Strand s = livingStrand(string);
        if (s == null) {
            return false;
        }
        s.reverse();
        return true;
    }

    public boolean name(int string, int name) {
        Strand s = livingStrand(string);
        if (s == null || !isName(name) || named(name) != NONE) {
            return false;
        }
        if (!tales.hasRoom(nameCount(s) + 1)) {
            return false;
        }
        loseName(s);
        s.name = name;
        tales.tell(name, EVENT_NAMED, s.owner, yearNow);
        return true;
    }

    public boolean give(int string, int owner) {
        Strand s = livingStrand(string);
        if (s == null || !isOwner(owner) || s.owner == owner || !tales.hasRoom(nameCount(s))) {
            return false;
        }
        handOver(s, owner);
        return true;
    }

    public int of(int string, int what) throws NoSuchElementException {
        Strand s = strandAt(string);
        if (s == null || what < 0 || what > 6) {
            throw new NoSuchElementException();
        }
        switch (what) {
            case 0:
                return s.length;
            case 1:
                return s.owner;
            case 2:
                return s.name;
            case 3:
                return s.leastGrade();
            case 4:
                return worthOf(s);
            case 5:
                return s.spans();
            default:
                return s.makerCount();
        }
    }

    public int bead(int string, int i, int what) {
        Strand s = strandAt(string);
        if (s == null) {
            return NONE;
        }
        switch (what) {
            case 0:
                return s.gradeAt(i);
            case 1:
                return s.makerAt(i);
            default:
                return NONE;
        }
    }

    public int named(int name) {
        if (!isName(name)) {
            return NONE;
        }
        for (int i = 0; i < strandCount; i++) {
            Strand s = strandAt(i);
            if (s != null && s.name == name) {
                return i;
            }
        }
        return NONE;
    }

    public int tale(int name, int i, int what) {
        if (!isName(name)) {
            return NONE;
        }
        return tales.about(tales.placeOf(name, i), what);
    }

    // ---- worth

    public int set(int what, int grade, int v) {
        switch (what) {
            case 0:
                return replaced(rates.rateRow, grade, v, 1, 100);
            case 1:
                return replaced(rates.bonusRow, grade, v, 0, 500);
            case 2:
                return replaced(rates.floodRow, grade, v, 1, 1000);
            case 3:
                return replacedFame(v);
            case 4:
                return replacedCustom(v);
            case 5:
                return replacedInterest(v);
            default:
                return NONE;
        }
    }

    public int rate(int grade) {
        return isGrade(grade) ? rates.rateNow(grade) : NONE;
    }

    public int rich(int owner) {
        if (!isOwner(owner)) {
            return NONE;
        }
        int worth = 0;
        for (int i = 0; i < strandCount; i++) {
            Strand s = strandAt(i);
            if (s != null && s.owner == owner) {
                worth += worthOf(s);
            }
        }
        return worth;
    }

    public int drawn(int string, int i, int n) {
        Strand s = strandAt(string);
        // n is held against what is left behind i, since i + n may wrap around.
        if (s == null || i < 0 || i >= s.length || n < 1 || n > s.length - i) {
            return NONE;
        }
        return s.leastGradeWithin(i, n);
    }

    public int cheat(int string, int grade) {
        Strand s = strandAt(string);
        // Any number is a bound here: the document turns none away, as blame() does.
        if (s == null) {
            return NONE;
        }
        for (int i = 0; i < s.length; i++) {
            if (s.gradeAt(i) < grade) {
                return i;
            }
        }
        return NONE;
    }

    public int blame(int grade) {
        if (!isGrade(grade)) {
            return NONE;
        }
        tallyMakersBelow(grade);
        int blamed = NONE;
        int most = 0;
        for (int maker = 0; maker < MAKERS; maker++) {
            if (madeBelow[maker] > most) {
                most = madeBelow[maker];
                blamed = maker;
            }
        }
        return blamed;
    }

    // ---- payments, debts

    public int serves(int owner, int sum) {
        return choosePayment(owner, sum);
    }

    public int pay(int owner, int to, int sum) {
        if (!isOwner(to) || owner == to) {
            return NONE;
        }
        int worth = choosePayment(owner, sum);
        if (worth < 0) {
            return worth;
        }
        if (!tales.hasRoom(chosenNames())) {
            return NONE;
        }
        handOverChosen(to);
        return worth - sum;
    }

    public int owe(int owner, int to, int spans, int grade) {
        if (!isOwner(owner) || !isOwner(to) || owner == to || !isGrade(grade)) {
            return NONE;
        }
        if (spans < 1 || spans > MOST_SPANS_OWED || debtCount >= MOST_DEBTS) {
            return NONE;
        }
        debts[debtCount] = new Debt(owner, to, spans, grade);
        debtCount++;
        return debtCount - 1;
    }

    public boolean settle(int debt, int string) {
        Debt d = debtAt(debt);
        Strand s = livingStrand(string);
        if (d == null || s == null || d.isPaid() || s.owner != d.owes) {
            return false;
        }
        if (s.spans() < d.spans || s.leastGrade() < d.grade || !tales.hasRoom(nameCount(s))) {
            return false;
        }
        handOver(s, d.to);
        d.spans = 0;
        d.paidIn = yearNow;
        return true;
    }

    public int debt(int debt, int what) {
        Debt d = debtAt(debt);
        if (d == null) {
            return NONE;
        }
        switch (what) {
            case 0:
                return d.owes;
            case 1:
                return d.to;
            case 2:
                return d.spans;
            case 3:
                return d.grade;
            case 4:
                return d.paidIn;
            default:
                return NONE;
        }
    }

    public int year() {
        if (yearNow >= LAST_YEAR) {
            return NONE;
        }
        yearNow++;
        for (int i = 0; i < debtCount; i++) {
            Debt d = debtAt(i);
            if (d != null) {
                d.grow(interest);
            }
        }
        return yearNow;
    }

    public int count(int what) {
        switch (what) {
            case 0:
                return strandCount;
            case 1:
                return goneCount();
            case 2:
                return debtCount;
            case 3:
                return paidCount();
            case 4:
                return yearNow;
            case 5:
                return tales.size;
            case 6:
                return rates.allBeads();
            case 7:
                return theHeap.size;
            default:
                return NONE;
        }
    }

    // ---- the heap

    public boolean heap(int grade, int n) {
        return theHeap.put(grade, n);
    }

    public int strung() {
        theHeap.plan(rates);
        return theHeap.bestWorth();
    }

    public int strings() {
        theHeap.plan(rates);
        return theHeap.bestParts();
    }

    public int part(int i) {
        theHeap.plan(rates);
        return theHeap.lengthOfPart(i);
    }

    // ---- what numbers may be

    private static boolean isOwner(int owner) {
        return owner >= 0 && owner < OWNERS;
    }

    private static boolean isGrade(int grade) {
        return grade >= 0 && grade < GRADES;
    }

    private static boolean isName(int name) {
        return name > NO_NAME && name <= LAST_NAME;
    }

    private static boolean areBeads(int grade, int maker, int n) {
        return isGrade(grade) && maker >= 0 && maker < MAKERS && n >= 1 && n <= MOST_BEADS;
    }

    // ---- finding and keeping

    private Strand strandAt(int i) {
        if (i < 0 || i >= strandCount || i >= strands.length) {
            return null;
        }
        return strands[i];
    }

    /** The strand of a number, or null if there is none such or it is GONE. */
    private Strand livingStrand(int i) {
        Strand s = strandAt(i);
        return s == null || s.length == 0 ? null : s;
    }

    private int keepStrand(Strand s) {
        if (strandCount >= strands.length) {
            return NONE;
        }
        strands[strandCount] = s;
        strandCount++;
        return strandCount - 1;
    }

    private Debt debtAt(int i) {
        if (i < 0 || i >= debtCount || i >= debts.length) {
            return null;
        }
        return debts[i];
    }

    private int goneCount() {
        int gone = 0;
        for (int i = 0; i < strandCount; i++) {
            if (livingStrand(i) == null) {
                gone++;
            }
        }
        return gone;
    }

    private int paidCount() {
        int paid = 0;
        for (int i = 0; i < debtCount; i++) {
            Debt d = debtAt(i);
            if (d != null && d.isPaid()) {
                paid++;
            }
        }
        return paid;
    }

    private void tallyMakersBelow(int grade) {
        for (int maker = 0; maker < MAKERS; maker++) {
            madeBelow[maker] = 0;
        }
        for (int i = 0; i < strandCount; i++) {
            Strand s = strandAt(i);
            if (s != null) {
                s.tallyMakersBelow(grade, madeBelow);
            }
        }
    }

    // ---- names

    private static int nameCount(Strand s) {
        return s.name == NO_NAME ? 0 : 1;
    }

    private void loseName(Strand s) {
        if (s.name != NO_NAME) {
            tales.tell(s.name, EVENT_LOST, 0, yearNow);
            s.name = NO_NAME;
        }
    }

    private void settleNameOfCut(Strand first, Strand rest) {
        if (custom == 0) {
            loseName(first);
            return;
        }
        Strand keeper = rest.length > first.length ? rest : first;
        int kept = first.name;
        first.name = NO_NAME;
        keeper.name = kept;
        tales.tell(kept, EVENT_CUT, keeper.length, yearNow);
    }

    private void settleNameOfJoined(Strand first, Strand second) {
        if (first.name == NO_NAME) {
            first.name = second.name;
            second.name = NO_NAME;
        } else {
            loseName(second);
        }
        if (first.name != NO_NAME) {
            tales.tell(first.name, EVENT_JOINED, first.length, yearNow);
        }
    }

    private void handOver(Strand s, int owner) {
        s.owner = owner;
        if (s.name != NO_NAME) {
            tales.tell(s.name, EVENT_GIVEN, owner, yearNow);
        }
    }

    // ---- worth

    private int worthOf(Strand s) {
        if (s.length == 0) {
            return 0;
        }
        int fame = s.name == NO_NAME ? 0 : rates.fame;
        return rates.worthByLength(s.leastGrade(), s.length) + fame;
    }

    private static int replaced(int[] row, int grade, int v, int least, int most) {
        if (grade < 0 || grade >= row.length || v < least || v > most) {
            return NONE;
        }
        int was = row[grade];
        row[grade] = v;
        return was;
    }

    private int replacedFame(int v) {
        if (v < 0 || v > 500) {
            return NONE;
        }
        int was = rates.fame;
        rates.fame = v;
        return was;
    }

    private int replacedCustom(int v) {
        if (v < 0 || v > 1) {
            return NONE;
        }
        int was = custom;
        custom = v;
        return was;
    }

    private int replacedInterest(int v) {
        if (v < 0 || v > 50) {
            return NONE;
        }
        int was = interest;
        interest = v;
        return was;
    }

    // ---- payments

    /** Leaves the set that serves best in the purse; answers its WORTH, or why there is none. */
    private int choosePayment(int owner, int sum) {
        if (!isOwner(owner) || sum < 1 || sum > MOST_SUM || !fillPurse(owner)) {
            return NONE;
        }
        if (purse.total < sum) {
            return TOO_LITTLE;
        }
        purse.choose(sum);
        return purse.chosenWorth;
    }

    private boolean fillPurse(int owner) {
        purse.clear();
        for (int i = 0; i < strandCount; i++) {
            Strand s = livingStrand(i);
            if (s != null && s.owner == owner && !purse.put(i, worthOf(s))) {
                return false;
            }
        }
        return true;
    }

    private int chosenNames() {
        int names = 0;
        for (int bit = 0; bit < purse.size; bit++) {
            Strand s = strandAt(purse.chosenAt(bit));
            if (s != null) {
                names += nameCount(s);
            }
        }
        return names;
    }

    private void handOverChosen(int to) {
        for (int bit = 0; bit < purse.size; bit++) {
            Strand s = strandAt(purse.chosenAt(bit));
            if (s != null) {
                handOver(s, to);
            }
        }
    }

    /** A STRING: its BEADS, OWNER and NAME. */
    private static final class Strand {
        private final int[] grades = new int[MOST_BEADS];
        private final int[] makers = new int[MOST_BEADS];
        private int length = 0;
        private int owner;
        private int name = NO_NAME;

        private Strand(int owner) {
            this.owner = owner;
        }

        private boolean has(int i) {
            return i >= 0 && i < length && i < MOST_BEADS;
        }

        private int gradeAt(int i) {
            return has(i) ? grades[i] : NONE;
        }

        private int makerAt(int i) {
            return has(i) ? makers[i] : NONE;
        }

        private void append(int grade, int maker, int n) {
            for (int k = 0; k < n && length < MOST_BEADS; k++) {
                grades[length] = grade;
                makers[length] = maker;
                length++;
            }
        }

        private void appendFrom(Strand other, int from) {
            for (int i = from; i < other.length; i++) {
                append(other.gradeAt(i), other.makerAt(i), 1);
            }
        }

        private void reverse() {
            int low = 0;
            int high = length - 1;
            while (low < high && has(high)) {
                exchange(low, high);
                low++;
                high--;
            }
        }

        private void exchange(int i, int j) {
            if (!has(i) || !has(j)) {
                return;
            }
            int grade = grades[i];
            int maker = makers[i];
            grades[i] = grades[j];
            makers[i] = makers[j];
            grades[j] = grade;
            makers[j] = maker;
        }

        private int leastGrade() {
            return leastGradeWithin(0, length);
        }

        private int leastGradeWithin(int from, int n) {
            int least = NONE;
            for (int i = from; i < from + n && has(i); i++) {
                if (least == NONE || grades[i] < least) {
                    least = grades[i];
                }
            }
            return least;
        }

        private int spans() {
            return length / SPAN;
        }

        private int makerCount() {
            int seen = 0;
            for (int i = 0; i < length; i++) {
                seen |= 1 << makerAt(i);
            }
            return Integer.bitCount(seen);
        }

        private void tallyMakersBelow(int grade, int[] tally) {
            for (int i = 0; i < length; i++) {
                int maker = makerAt(i);
                if (gradeAt(i) < grade && maker >= 0 && maker < tally.length) {
                    tally[maker]++;
                }
            }
        }
    }

    /** RATES, BONUS, FLOODS and FAME, and how many BEADS of each GRADE the STRINGS have. */
    private static final class Rates {
        private final int[] rateRow = FIRST_RATES.clone();
        private final int[] bonusRow = FIRST_BONUSES.clone();
        private final int[] floodRow = FIRST_FLOODS.clone();
        // No call takes BEADS away, so these only grow where BEADS come in.
        private final int[] beadRow = new int[GRADES];
        private int fame = 25;

        private void flowIn(int grade, int n) {
            if (isGrade(grade)) {
                beadRow[grade] += n;
            }
        }

        private int allBeads() {
            int all = 0;
            for (int grade = 0; grade < GRADES; grade++) {
                all += beadRow[grade];
            }
            return all;
        }

        private int rateNow(int grade) {
            if (!isGrade(grade)) {
                return 0;
            }
            int flood = floodRow[grade];
            int floods = flood > 0 ? beadRow[grade] / flood : 0;
            return Math.max(1, rateRow[grade] - floods);
        }

        private int worthByLength(int grade, int beads) {
            if (!isGrade(grade)) {
                return 0;
            }
            return beads * rateNow(grade) + beads / SPAN * bonusRow[grade];
        }
    }

    /** The EVENTS of all TALES in one row, in order: the limit is one for all of them together. */
    private static final class Tales {
        private final int[] names = new int[MOST_EVENTS];
        private final int[] kinds = new int[MOST_EVENTS];
        private final int[] numbers = new int[MOST_EVENTS];
        private final int[] years = new int[MOST_EVENTS];
        private int size = 0;

        private boolean hasRoom(int events) {
            return size + events <= MOST_EVENTS;
        }

        private void tell(int name, int kind, int number, int year) {
            if (size >= MOST_EVENTS) {
                return;
            }
            names[size] = name;
            kinds[size] = kind;
            numbers[size] = number;
            years[size] = year;
            size++;
        }

        private int placeOf(int name, int i) {
            int before = 0;
            for (int place = 0; place < size && place < MOST_EVENTS; place++) {
                if (names[place] == name) {
                    if (before == i) {
                        return place;
                    }
                    before++;
                }
            }
            return NONE;
        }

        private int about(int place, int what) {
            if (place < 0 || place >= size || place >= MOST_EVENTS) {
                return NONE;
            }
            switch (what) {
                case 0:
                    return kinds[place];
                case 1:
                    return numbers[place];
                case 2:
                    return years[place];
                default:
                    return NONE;
            }
        }
    }

    /** The STRINGS that one OWNER can pay with, and the set of them that was chosen last. */
    private static final class Purse {
        private final int[] numbers = new int[MOST_TO_PAY_WITH];
        private final int[] worths = new int[MOST_TO_PAY_WITH];
        private int size = 0;
        private int total = 0;
        private int chosen = 0;
        private int chosenSize = 0;
        private int chosenWorth = 0;

        private void clear() {
            size = 0;
            total = 0;
            chosen = 0;
            chosenSize = 0;
            chosenWorth = NONE;
        }

        private boolean put(int number, int worth) {
            if (size >= MOST_TO_PAY_WITH) {
                return false;
            }
            numbers[size] = number;
            worths[size] = worth;
            size++;
            total += worth;
            return true;
        }

        /** Goes through the sets in the order of their bits, so the first of equal ones stays. */
        private void choose(int sum) {
            int setWorth = 0;
            int setSize = 0;
            for (int bits = 1; bits < 1 << size; bits++) {
                int bit = 0;
                // Counting one up clears the low bits that were set and sets the next one.
                while (bit < size - 1 && (bits >> bit & 1) == 0) {
                    setWorth -= worthAt(bit);
                    setSize--;
                    bit++;
                }
                setWorth += worthAt(bit);
                setSize++;
                if (setWorth >= sum && isBetter(setWorth, setSize)) {
                    chosen = bits;
                    chosenSize = setSize;
                    chosenWorth = setWorth;
                }
            }
        }

        private boolean isBetter(int setWorth, int setSize) {
            if (chosenWorth == NONE || setWorth < chosenWorth) {
                return true;
            }
            return setWorth == chosenWorth && setSize < chosenSize;
        }

        private int worthAt(int bit) {
            return bit >= 0 && bit < size && bit < MOST_TO_PAY_WITH ? worths[bit] : 0;
        }

        /** The number of the STRING of a bit, or NONE if the chosen set is without it. */
        private int chosenAt(int bit) {
            if (bit < 0 || bit >= size || bit >= MOST_TO_PAY_WITH) {
                return NONE;
            }
            return (chosen >> bit & 1) == 1 ? numbers[bit] : NONE;
        }
    }

    /** A DEBT; its SPANS are those of NOW. */
    private static final class Debt {
        private final int owes;
        private final int to;
        private final int grade;
        private int spans;
        private int paidIn = NONE;

        private Debt(int owes, int to, int spans, int grade) {
            this.owes = owes;
            this.to = to;
            this.spans = spans;
            this.grade = grade;
        }

        private boolean isPaid() {
            return paidIn != NONE;
        }

        private void grow(int interest) {
            spans = Math.min(MOST_SPANS_GROWN, spans + spans * interest / 100);
        }
    }

    /** THE HEAP, and the way in which it is STRUNG best from each place of its row on. */
    private static final class Heap {
        private final int[] beadRow = new int[GRADES];
        private int size = 0;
        private final int[] gradeOf = new int[MOST_HEAPED];
        private final int[] worthFrom = new int[MOST_HEAPED + 1];
        private final int[] partsFrom = new int[MOST_HEAPED + 1];
        private final int[] firstFrom = new int[MOST_HEAPED + 1];

        private boolean put(int grade, int n) {
            if (!isGrade(grade) || n < 0 || n > MOST_HEAPED) {
                return false;
            }
            int others = size - beadRow[grade];
            if (others + n > MOST_HEAPED) {
                return false;
            }
            beadRow[grade] = n;
            size = others + n;
            return true;
        }

        private int bestWorth() {
            return worthFrom[0];
        }

        private int bestParts() {
            return partsFrom[0];
        }

        /** From the end to the front: what is best behind a first part is known by then. */
        private void plan(Rates rates) {
            layRow();
            clearFrom(size);
            for (int from = size - 1; from >= 0; from--) {
                clearFrom(from);
                for (int length = 1; length <= MOST_BEADS && from + length <= size; length++) {
                    tryFirst(rates, from, length);
                }
            }
        }

        private void layRow() {
            int place = 0;
            for (int grade = GRADES - 1; grade >= 0; grade--) {
                for (int k = 0; k < beadRow[grade] && place < MOST_HEAPED; k++) {
                    gradeOf[place] = grade;
                    place++;
                }
            }
        }

        private void clearFrom(int from) {
            if (from >= 0 && from <= MOST_HEAPED) {
                worthFrom[from] = 0;
                partsFrom[from] = 0;
                firstFrom[from] = 0;
            }
        }

        private void tryFirst(Rates rates, int from, int length) {
            int behind = from + length;
            if (from < 0 || length < 1 || behind > size || behind > MOST_HEAPED) {
                return;
            }
            // The best GRADE comes first, so a part's last BEAD has its least GRADE.
            int worth = rates.worthByLength(gradeOf[behind - 1], length) + worthFrom[behind];
            int parts = 1 + partsFrom[behind];
            boolean better = worth > worthFrom[from]
                    || worth == worthFrom[from] && parts <= partsFrom[from];
            // Lengths are tried in growing order, so the longest first part of equal ones stays.
            if (better) {
                worthFrom[from] = worth;
                partsFrom[from] = parts;
                firstFrom[from] = length;
            }
        }

        private int lengthOfPart(int i) {
            int from = 0;
            for (int k = 0; k < i && k < MOST_HEAPED && from < size; k++) {
                from += firstFrom[from];
            }
            return i >= 0 && i < bestParts() && from < size ? firstFrom[from] : NONE;
        }
    }
}
