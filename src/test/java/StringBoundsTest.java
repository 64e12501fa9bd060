/** The bounds that the document tells of STRINGS (promises 1 to 12): just inside, just beyond. */
public final class StringBoundsTest {
    private static final Check CHECK = new Check();

    public static void main(String[] args) {
        newObject();
        callsOfAnObject();
        stringArguments();
        stringForty();
        addArguments();
        addEighty();
        addToWhat();
        cutPlaces();
        cutOfWhat();
        cutForty();
        cutNames();
        joinEighty();
        joinOfWhat();
        joinNames();
        gone();
        turn();
        nameNumbers();
        nameTaken();
        give();
        of();
        bead();
        named();
        tale();
        CHECK.close();
    }

    private static Run run(String words) {
        return new Run(CHECK, words);
    }

    private static void newObject() {
        run("1: No STRINGS, DEBTS; an empty HEAP; YEAR 0").rows("""
            count(0) = 0
            count(1) = 0
            count(2) = 0
            count(3) = 0
            count(4) = 0
            count(5) = 0
            count(6) = 0
            count(7) = 0
            add(0, 0, 0, 1) refused
            cut(0, 1) refused
            join(0, 0) refused
            join(0, 1) refused
            turn(0) refused
            name(0, 1) refused
            give(0, 1) refused
            of(0, 0) throws
            bead(0, 0, 0) refused
            named(1) refused
            tale(1, 0, 0) refused
            rich(0) keeps 0
            drawn(0, 0, 1) refused
            cheat(0, 4) refused
            blame(4) refused
            serves(0, 1) keeps -2
            pay(0, 1, 1) keeps -2
            settle(0, 0) refused
            debt(0, 0) refused
            strung() keeps 0
            strings() keeps 0
            part(0) refused
            """);
        run("1: the first of all").rows("""
            string(0, 0, 0, 1) = 0
            owe(0, 1, 1, 0) = 0
            year() = 1
            """);
        run("Terms 1: RATES, BONUS, FLOOD, FAME at first; 2: CUSTOM; 3: INTEREST").rows("""
            set(0, 0, 1) = 1
            set(0, 1, 1) = 2
            set(0, 2, 1) = 4
            set(0, 3, 1) = 7
            set(0, 4, 1) = 11
            set(1, 0, 1) = 0
            set(1, 1, 1) = 5
            set(1, 2, 1) = 10
            set(1, 3, 1) = 20
            set(1, 4, 1) = 40
            set(2, 0, 1) = 50
            set(2, 1, 1) = 50
            set(2, 2, 1) = 50
            set(2, 3, 1) = 50
            set(2, 4, 1) = 50
            set(3, 0, 1) = 25
            set(4, 0, 1) = 1
            set(5, 0, 1) = 10
            """);
    }

    private static void callsOfAnObject() {
        run("at most 512 calls after it has been made").rows("""
            string(0, 4, 3, 7) = 0
            add(0, 1, 2, 1) = 8
            """).times(505, "turn(0) = true").rows("""
            bead(0, 0, 0) = 1
            bead(0, 7, 1) = 3
            cut(0, 1) = 1
            of(1, 3) = 4
            # the 512th
            join(0, 1) = 8
            """);
        run("at most 512 calls: refused ones are calls too").rows("""
            string(0, 4, 3, 7) = 0
            """).times(510, "cut(0, 7) = NONE").rows("""
            of(0, 0) = 7
            """);
    }

    private static void stringArguments() {
        run("2: n (1 .. 80)").rows("""
            string(0, 2, 1, 0) refused
            string(0, 2, 1, -1) refused
            string(0, 2, 1, 81) refused
            string(0, 2, 1, LOW) refused
            string(0, 2, 1, HIGH) refused
            string(0, 2, 1, 1) = 0
            string(0, 2, 1, 80) = 1
            of(0, 0) = 1
            of(1, 0) = 80
            string(0, 2, 1, 0) refused
            string(0, 2, 1, 81) refused
            """);
        run("2, Terms 1: an OWNER 0 .. 9").rows("""
            string(-1, 2, 1, 1) refused
            string(10, 2, 1, 1) refused
            string(LOW, 2, 1, 1) refused
            string(HIGH, 2, 1, 1) refused
            string(0, 2, 1, 1) = 0
            string(9, 2, 1, 1) = 1
            of(0, 1) = 0
            of(1, 1) = 9
            """);
        run("2, Terms 1: a GRADE 0 .. 4").rows("""
            string(0, -1, 1, 1) refused
            string(0, 5, 1, 1) refused
            string(0, LOW, 1, 1) refused
            string(0, HIGH, 1, 1) refused
            string(0, 0, 1, 1) = 0
            string(0, 4, 1, 1) = 1
            bead(0, 0, 0) = 0
            bead(1, 0, 0) = 4
            """);
        run("2, Terms 1: a MAKER 0 .. 9").rows("""
            string(0, 2, -1, 1) refused
            string(0, 2, 10, 1) refused
            string(0, 2, LOW, 1) refused
            string(0, 2, HIGH, 1) refused
            string(0, 2, 0, 1) = 0
            string(0, 2, 9, 1) = 1
            bead(0, 0, 1) = 0
            bead(1, 0, 1) = 9
            """);
    }

    private static void stringForty() {
        run("2, Terms 1: STRINGS at most 40").times(39, "string(3, 2, 1, 2)").rows("""
            count(0) = 39
            string(3, 2, 1, 2) = 39
            string(3, 2, 1, 2) refused
            count(0) = 40
            # one that is GONE still has its number
            join(0, 39) = 4
            string(3, 2, 1, 2) refused
            of(39, 0) = 0
            of(40, 0) throws
            """);
        run("2, Terms 1: at most 40, each as long as can be").times(40, "string(0, 4, 9, 80)").rows("""
            count(6) = 3200
            string(0, 4, 9, 80) refused
            add(39, 4, 9, 1) refused
            bead(39, 79, 1) = 9
            """);
    }

    private static void addArguments() {
        run("3: n (1 .. 80)").rows("""
            string(0, 2, 1, 1)
            add(0, 2, 1, 0) refused
            add(0, 2, 1, -1) refused
            add(0, 2, 1, LOW) refused
            # with these a sum of BEADS would wrap around
            add(0, 2, 1, HIGH) refused
            add(0, 2, 1, 81) refused
            # 80 are allowed, but come to more than 80 behind any BEAD
            add(0, 2, 1, 80) refused
            add(0, 2, 1, 1) = 2
            add(0, 2, 1, 78) = 80
            """);
        run("3, Terms 1: a GRADE 0 .. 4").rows("""
            string(0, 2, 1, 1)
            add(0, -1, 1, 1) refused
            add(0, 5, 1, 1) refused
            add(0, LOW, 1, 1) refused
            add(0, HIGH, 1, 1) refused
            add(0, 0, 1, 1) = 2
            add(0, 4, 1, 1) = 3
            bead(0, 1, 0) = 0
            bead(0, 2, 0) = 4
            """);
        run("3, Terms 1: a MAKER 0 .. 9").rows("""
            string(0, 2, 1, 1)
            add(0, 2, -1, 1) refused
            add(0, 2, 10, 1) refused
            add(0, 2, LOW, 1) refused
            add(0, 2, HIGH, 1) refused
            add(0, 2, 0, 1) = 2
            add(0, 2, 9, 1) = 3
            bead(0, 1, 1) = 0
            bead(0, 2, 1) = 9
            """);
    }

    private static void addEighty() {
        run("3: more than 80").rows("""
            string(0, 2, 1, 50)
            add(0, 3, 4, 31) refused
            add(0, 3, 4, 30) = 80
            add(0, 3, 4, 1) refused
            bead(0, 49, 0) = 2
            bead(0, 50, 0) = 3
            bead(0, 79, 1) = 4
            """);
        run("3: more than 80, one by one").rows("""
            string(0, 2, 1, 78)
            add(0, 2, 1, 1) = 79
            add(0, 2, 1, 2) refused
            add(0, 2, 1, 1) = 80
            add(0, 2, 1, 1) refused
            # cut off, there is room again
            cut(0, 79) = 1
            add(0, 2, 1, 2) refused
            add(0, 2, 1, 1) = 80
            """);
    }

    private static void addToWhat() {
        run("3: none such, GONE").rows("""
            string(0, 2, 1, 1)
            string(0, 2, 1, 1)
            string(0, 2, 1, 1)
            add(3, 2, 1, 1) refused
            add(-1, 2, 1, 1) refused
            add(39, 2, 1, 1) refused
            add(40, 2, 1, 1) refused
            add(LOW, 2, 1, 1) refused
            add(HIGH, 2, 1, 1) refused
            add(2, 2, 1, 1) = 2
            join(0, 1) = 2
            add(1, 2, 1, 1) refused
            add(0, 2, 1, 1) = 3
            """);
    }

    private static void cutPlaces() {
        run("4: from place i on (1 .. its last)").rows("""
            string(7, 4, 1, 2)
            add(0, 1, 2, 3)
            cut(0, 0) refused
            cut(0, -1) refused
            cut(0, 5) refused
            cut(0, 6) refused
            cut(0, LOW) refused
            cut(0, HIGH) refused
            cut(0, 4) = 1
            of(0, 0) = 4
            of(1, 0) = 1
            of(1, 1) = 7
            bead(1, 0, 1) = 2
            cut(0, 4) refused
            cut(0, 1) = 2
            of(0, 0) = 1
            of(2, 0) = 3
            bead(2, 0, 0) = 4
            bead(2, 2, 0) = 1
            bead(2, 3, 0) = NONE
            """);
        run("4: from place i on, of 80").rows("""
            string(0, 4, 1, 80)
            cut(0, 80) refused
            cut(0, 79) = 1
            of(1, 0) = 1
            """);
        run("4: from place i on, of 80 the first").rows("""
            string(0, 4, 1, 80)
            cut(0, 0) refused
            cut(0, 1) = 1
            of(1, 0) = 79
            bead(1, 78, 1) = 1
            """);
        run("4: one BEAD has no place to cut at, two have one").rows("""
            string(0, 4, 1, 1)
            cut(0, 0) refused
            cut(0, 1) refused
            add(0, 4, 2, 1) = 2
            cut(0, 2) refused
            cut(0, 1) = 1
            cut(1, 1) refused
            """);
    }

    private static void cutOfWhat() {
        run("4: none such").rows("""
            string(0, 4, 1, 2)
            string(0, 4, 1, 2)
            cut(2, 1) refused
            cut(-1, 1) refused
            cut(39, 1) refused
            cut(40, 1) refused
            cut(LOW, 1) refused
            cut(HIGH, 1) refused
            cut(1, 1) = 2
            """);
        run("4: a GONE one has no place").rows("""
            string(0, 4, 1, 2)
            string(0, 4, 1, 2)
            join(0, 1)
            cut(1, 0) refused
            cut(1, 1) refused
            cut(1, -1) refused
            cut(0, 3) = 2
            """);
    }

    private static void cutForty() {
        run("4, Terms 1: STRINGS at most 40").times(39, "string(3, 2, 1, 3)").rows("""
            cut(5, 1) = 39
            cut(6, 1) refused
            cut(39, 1) refused
            of(6, 0) = 3
            join(0, 1) = 6
            cut(0, 3) refused
            """);
    }

    private static void cutNames() {
        run("Terms 2: the part with more BEADS keeps the NAME").rows("""
            string(0, 2, 0, 21)
            name(0, 5)
            cut(0, 10) = 1
            named(5) = 1
            of(0, 2) = 0
            of(1, 2) = 5
            tale(5, 1, 0) = 3
            tale(5, 1, 1) = 11
            cut(1, 6) = 2
            named(5) = 1
            of(2, 2) = 0
            tale(5, 2, 1) = 6
            count(5) = 3
            """);
        run("Terms 2: of equal ones the first").rows("""
            string(0, 2, 0, 20)
            name(0, 5)
            cut(0, 10) = 1
            named(5) = 0
            of(1, 2) = 0
            tale(5, 1, 1) = 10
            cut(0, 5) = 2
            named(5) = 0
            """);
        run("Terms 2: of equal ones the first, of two BEADS").rows("""
            string(0, 2, 0, 2)
            name(0, 5)
            cut(0, 1) = 1
            named(5) = 0
            tale(5, 1, 1) = 1
            """);
        run("Terms 2: if CUSTOM says so; else the NAME is lost").rows("""
            string(0, 2, 0, 20)
            name(0, 5)
            set(4, 0, 0) = 1
            cut(0, 19) = 1
            named(5) = NONE
            of(0, 2) = 0
            of(1, 2) = 0
            tale(5, 1, 0) = 5
            tale(5, 1, 1) = 0
            tale(5, 2, 0) = NONE
            # it is free for any STRING then
            name(1, 5) = true
            tale(5, 2, 0) = 1
            set(4, 0, 1) = 0
            name(0, 6) = true
            cut(0, 1) = 2
            named(6) = 2
            """);
        run("Terms 2: without a NAME there is no EVENT").rows("""
            string(0, 2, 0, 20)
            cut(0, 10) = 1
            set(4, 0, 0) = 1
            cut(0, 5) = 2
            count(5) = 0
            """);
    }

    private static void joinEighty() {
        run("5: more than 80").rows("""
            string(0, 2, 1, 40)
            string(0, 3, 2, 41)
            string(0, 4, 3, 40)
            join(0, 1) refused
            join(1, 0) refused
            join(0, 2) = 80
            bead(0, 39, 0) = 2
            bead(0, 40, 0) = 4
            bead(0, 79, 1) = 3
            """);
        run("5: more than 80, of 1, 79 and 80").rows("""
            string(0, 2, 1, 80)
            string(0, 2, 1, 1)
            string(0, 2, 1, 79)
            join(0, 1) refused
            join(1, 0) refused
            join(0, 2) refused
            join(1, 2) = 80
            join(0, 1) refused
            """);
        run("5: more than 80, one of 79 at the front").rows("""
            string(0, 2, 1, 79)
            string(0, 2, 1, 2)
            string(0, 2, 1, 1)
            join(0, 1) refused
            join(0, 2) = 80
            """);
    }

    private static void joinOfWhat() {
        run("5: none such, alike, of two OWNERS").rows("""
            string(0, 2, 1, 5)
            string(0, 2, 1, 5)
            string(1, 2, 1, 5)
            join(0, 0) refused
            join(2, 2) refused
            join(0, 3) refused
            join(3, 0) refused
            join(3, 3) refused
            join(0, -1) refused
            join(-1, 0) refused
            join(-1, -1) refused
            join(0, 39) refused
            join(0, 40) refused
            join(40, 0) refused
            join(LOW, 0) refused
            join(0, HIGH) refused
            join(0, 2) refused
            join(2, 0) refused
            give(2, 0) = true
            join(2, 0) = 10
            join(2, 1) = 15
            """);
        run("5: GONE").rows("""
            string(0, 2, 1, 5)
            string(0, 2, 1, 5)
            string(0, 2, 1, 5)
            join(0, 1) = 10
            join(0, 1) refused
            join(1, 0) refused
            join(1, 1) refused
            join(1, 2) refused
            join(2, 1) refused
            join(2, 0) = 15
            join(0, 1) refused
            """);
    }

    private static void joinNames() {
        run("Terms 2: the first one's NAME stays").rows("""
            string(0, 2, 1, 5)
            string(0, 2, 1, 6)
            name(0, 1)
            join(0, 1) = 11
            named(1) = 0
            tale(1, 1, 0) = 4
            tale(1, 1, 1) = 11
            count(5) = 2
            """);
        run("Terms 2: if it has none, the second one's").rows("""
            string(0, 2, 1, 5)
            string(0, 2, 1, 6)
            name(1, 1)
            join(0, 1) = 11
            named(1) = 0
            of(1, 2) = 0
            tale(1, 1, 0) = 4
            tale(1, 1, 1) = 11
            count(5) = 2
            """);
        run("Terms 2: the second one's is lost, if both have one").rows("""
            string(0, 2, 1, 5)
            string(0, 2, 1, 6)
            name(0, 1)
            name(1, 2)
            join(1, 0) = 11
            named(2) = 1
            named(1) = NONE
            of(0, 2) = 0
            tale(1, 1, 0) = 5
            tale(1, 1, 1) = 0
            tale(2, 1, 0) = 4
            tale(2, 1, 1) = 11
            count(5) = 4
            """);
        run("Terms 2: neither has one").rows("""
            string(0, 2, 1, 5)
            string(0, 2, 1, 6)
            join(0, 1) = 11
            of(0, 2) = 0
            count(5) = 0
            """);
    }

    private static void gone() {
        run("Terms 1: a STRING without BEADS has no NAME and comes to nothing").rows("""
            string(6, 4, 1, 10)
            string(6, 4, 2, 10)
            name(1, 9)
            of(1, 4) = 175
            join(0, 1) = 20
            of(1, 0) = 0
            of(1, 1) = 6
            of(1, 2) = 0
            of(1, 3) = NONE
            of(1, 4) = 0
            of(1, 5) = 0
            of(1, 6) = 0
            count(0) = 2
            count(1) = 1
            rich(6) = 325
            # its BEADS are those of the other one
            count(6) = 20
            add(1, 0, 0, 1) refused
            turn(1) refused
            name(1, 1) refused
            give(1, 0) refused
            bead(1, 0, 0) refused
            drawn(1, 0, 1) refused
            drawn(1, 0, 0) refused
            cheat(1, HIGH) refused
            of(1, 7) throws
            of(1, -1) throws
            """);
    }

    private static void turn() {
        run("6: a row is turned round, of one BEAD, two and three").rows("""
            string(0, 4, 1, 1)
            turn(0) = true
            bead(0, 0, 0) = 4
            bead(0, 0, 1) = 1
            add(0, 3, 2, 1) = 2
            turn(0) = true
            bead(0, 0, 0) = 3
            bead(0, 0, 1) = 2
            bead(0, 1, 0) = 4
            bead(0, 1, 1) = 1
            add(0, 0, 5, 1) = 3
            turn(0) = true
            bead(0, 0, 0) = 0
            bead(0, 0, 1) = 5
            bead(0, 1, 0) = 4
            bead(0, 1, 1) = 1
            bead(0, 2, 0) = 3
            bead(0, 2, 1) = 2
            of(0, 0) = 3
            """);
        run("6: of 80").rows("""
            string(0, 4, 1, 1)
            add(0, 2, 5, 78)
            add(0, 0, 9, 1)
            name(0, 3)
            turn(0) = true
            bead(0, 0, 0) = 0
            bead(0, 0, 1) = 9
            bead(0, 1, 0) = 2
            bead(0, 78, 1) = 5
            bead(0, 79, 0) = 4
            bead(0, 79, 1) = 1
            bead(0, 80, 0) = NONE
            # it keeps its NAME, and no EVENT is told
            named(3) = 0
            count(5) = 1
            """);
        run("6: none such, GONE").rows("""
            string(0, 4, 1, 2)
            string(0, 3, 1, 2)
            turn(2) refused
            turn(-1) refused
            turn(39) refused
            turn(40) refused
            turn(LOW) refused
            turn(HIGH) refused
            turn(1) = true
            join(0, 1)
            turn(1) refused
            """);
    }

    private static void nameNumbers() {
        run("7, Terms 1: a NAME 1 .. 99; another NAME").rows("""
            string(3, 1, 0, 4)
            string(4, 1, 0, 4)
            name(0, 0) refused
            name(0, -1) refused
            name(0, 100) refused
            name(0, LOW) refused
            name(0, HIGH) refused
            name(0, 1) = true
            name(1, 99) = true
            name(0, 0) refused
            name(1, 100) refused
            named(1) = 0
            named(99) = 1
            of(1, 2) = 99
            tale(99, 0, 1) = 4
            """);
        run("7: none such, GONE").rows("""
            string(3, 1, 0, 4)
            string(3, 1, 0, 4)
            name(2, 5) refused
            name(-1, 5) refused
            name(39, 5) refused
            name(40, 5) refused
            name(LOW, 5) refused
            name(HIGH, 5) refused
            name(1, 5) = true
            join(0, 1)
            name(1, 6) refused
            # its NAME has gone over to the first
            name(1, 5) refused
            name(0, 6) = true
            """);
    }

    private static void nameTaken() {
        run("7: one that a STRING has; in place of its own, which is lost").rows("""
            string(3, 1, 0, 4)
            string(4, 1, 0, 4)
            name(0, 7) = true
            name(0, 7) refused
            name(1, 7) refused
            year() = 1
            name(0, 8) = true
            named(7) = NONE
            tale(7, 1, 0) = 5
            tale(7, 1, 1) = 0
            tale(7, 1, 2) = 1
            tale(8, 0, 0) = 1
            tale(8, 0, 1) = 3
            count(5) = 3
            name(1, 8) refused
            # a lost one is free, and its TALE goes on
            name(1, 7) = true
            tale(7, 2, 0) = 1
            tale(7, 2, 1) = 4
            tale(7, 3, 0) = NONE
            """);
    }

    private static void give() {
        run("8, Terms 1: an OWNER 0 .. 9; its own").rows("""
            string(5, 1, 0, 4)
            name(0, 2)
            give(0, -1) refused
            give(0, 10) refused
            give(0, LOW) refused
            give(0, HIGH) refused
            give(0, 5) refused
            give(0, 0) = true
            of(0, 1) = 0
            give(0, 0) refused
            give(0, 9) = true
            of(0, 1) = 9
            give(0, 9) refused
            tale(2, 1, 0) = 2
            tale(2, 1, 1) = 0
            tale(2, 2, 1) = 9
            tale(2, 3, 0) = NONE
            """);
        run("8: none such, GONE").rows("""
            string(5, 1, 0, 4)
            string(5, 1, 0, 4)
            give(2, 1) refused
            give(-1, 1) refused
            give(39, 1) refused
            give(40, 1) refused
            give(LOW, 1) refused
            give(HIGH, 1) refused
            give(1, 1) = true
            give(1, 5) = true
            join(0, 1)
            give(1, 1) refused
            count(5) = 0
            """);
    }

    private static void of() {
        run("9: none such, another what").rows("""
            string(6, 3, 5, 20)
            string(2, 4, 5, 1)
            of(0, 0) keeps 20
            of(0, 6) keeps 1
            of(0, -1) throws
            of(0, 7) throws
            of(0, LOW) throws
            of(0, HIGH) throws
            of(1, 1) keeps 2
            of(2, 1) throws
            of(-1, 1) throws
            of(39, 1) throws
            of(40, 1) throws
            of(LOW, 1) throws
            of(HIGH, 1) throws
            of(-1, -1) throws
            of(2, 7) throws
            """);
        run("9, Terms 1: SPANS (ten BEADS, whole tens)").rows("""
            string(0, 2, 5, 1)
            of(0, 5) = 0
            add(0, 2, 5, 8)
            of(0, 5) = 0
            add(0, 2, 5, 1)
            of(0, 5) = 1
            add(0, 2, 5, 9)
            of(0, 5) = 1
            add(0, 2, 5, 1)
            of(0, 5) = 2
            add(0, 2, 5, 59)
            of(0, 5) = 7
            add(0, 2, 5, 1)
            of(0, 5) = 8
            """);
        run("9: its least GRADE").rows("""
            string(0, 4, 5, 78)
            of(0, 3) = 4
            add(0, 3, 5, 1)
            of(0, 3) = 3
            add(0, 0, 5, 1)
            of(0, 3) = 0
            turn(0)
            of(0, 3) = 0
            cut(0, 1)
            of(1, 3) = 3
            cut(1, 1)
            of(2, 3) = 4
            """);
        run("9: how many MAKERS it has, 1 .. 10").rows("""
            string(0, 4, 9, 60)
            of(0, 6) = 1
            add(0, 4, 0, 1)
            of(0, 6) = 2
            add(0, 4, 1, 1)
            add(0, 4, 2, 1)
            add(0, 4, 3, 1)
            add(0, 4, 4, 1)
            add(0, 4, 5, 1)
            add(0, 4, 6, 1)
            add(0, 4, 7, 1)
            of(0, 6) = 9
            add(0, 4, 8, 1)
            of(0, 6) = 10
            add(0, 4, 8, 1)
            of(0, 6) = 10
            """);
        run("9: how many MAKERS, of the first BEAD and the last").rows("""
            string(0, 4, 9, 1)
            add(0, 4, 5, 78)
            add(0, 4, 0, 1)
            of(0, 6) = 3
            cut(0, 79)
            of(0, 6) = 2
            cut(0, 1)
            of(0, 6) = 1
            of(2, 6) = 1
            """);
    }

    private static void bead() {
        run("10: none such, another what").rows("""
            string(0, 3, 8, 2)
            add(0, 1, 0, 1)
            bead(0, 0, 0) keeps 3
            bead(0, 2, 0) keeps 1
            bead(0, 2, 1) keeps 0
            bead(0, 3, 0) refused
            bead(0, 3, 1) refused
            bead(0, -1, 0) refused
            bead(0, -1, 1) refused
            bead(0, LOW, 0) refused
            bead(0, HIGH, 1) refused
            bead(0, 0, 2) refused
            bead(0, 0, -1) refused
            bead(0, 0, LOW) refused
            bead(0, 0, HIGH) refused
            bead(1, 0, 0) refused
            bead(-1, 0, 0) refused
            bead(39, 0, 0) refused
            bead(40, 0, 0) refused
            bead(LOW, 0, 0) refused
            bead(HIGH, 0, 1) refused
            """);
        run("10: of 80").rows("""
            string(0, 3, 8, 80)
            bead(0, 79, 0) = 3
            bead(0, 79, 1) = 8
            bead(0, 80, 0) refused
            bead(0, 80, 1) refused
            # what is cut off is no BEAD of the first any more
            cut(0, 40)
            bead(0, 39, 0) = 3
            bead(0, 40, 0) refused
            bead(1, 39, 1) = 8
            bead(1, 40, 1) refused
            """);
    }

    private static void named() {
        run("11: NONE if none has").rows("""
            string(0, 0, 0, 1)
            string(0, 0, 0, 1)
            # none (0) is no NAME, though both have none
            named(0) refused
            named(1) refused
            name(1, 1)
            name(0, 99)
            named(1) keeps 1
            named(99) keeps 0
            named(2) refused
            named(98) refused
            named(100) refused
            named(0) refused
            named(-1) refused
            named(LOW) refused
            named(HIGH) refused
            join(0, 1)
            named(1) refused
            named(99) keeps 0
            """);
        run("11: the last of 40").times(40, "string(0, 0, 0, 1)").rows("""
            name(39, 50)
            named(50) keeps 39
            """);
    }

    private static void tale() {
        run("12: none such, another what").rows("""
            string(2, 0, 0, 1)
            tale(1, 0, 0) refused
            name(0, 1)
            year()
            give(0, 7)
            name(0, 99)
            tale(1, 0, 0) keeps 1
            tale(1, 0, 1) keeps 2
            tale(1, 0, 2) keeps 0
            tale(1, 1, 0) keeps 2
            tale(1, 1, 1) keeps 7
            tale(1, 1, 2) keeps 1
            tale(1, 2, 0) keeps 5
            tale(1, 2, 1) keeps 0
            tale(1, 2, 2) keeps 1
            tale(1, 3, 0) refused
            tale(1, -1, 0) refused
            tale(1, LOW, 0) refused
            tale(1, HIGH, 0) refused
            tale(1, 0, -1) refused
            tale(1, 0, 3) refused
            tale(1, 0, LOW) refused
            tale(1, 0, HIGH) refused
            tale(99, 0, 1) keeps 7
            tale(99, 1, 0) refused
            tale(98, 0, 0) refused
            tale(2, 0, 0) refused
            tale(0, 0, 0) refused
            tale(100, 0, 0) refused
            tale(-1, 0, 0) refused
            tale(LOW, 0, 0) refused
            tale(HIGH, 0, 0) refused
            """);
    }
}
