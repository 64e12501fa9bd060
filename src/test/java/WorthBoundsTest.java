/** The bounds that the document tells of RATES and WORTH (promises 13 to 18): just inside, just beyond. */
public final class WorthBoundsTest {
    private static final Check CHECK = new Check();

    public static void main(String[] args) {
        setNumbers();
        setGrades();
        setWhat();
        rateGrades();
        floods();
        floodsInTheEnds();
        worthOfSpans();
        worthAtTheEnds();
        fame();
        rich();
        drawn();
        cheat();
        blameGrades();
        blameEquals();
        CHECK.close();
    }

    private static Run run(String words) {
        return new Run(CHECK, words);
    }

    private static void setNumbers() {
        run("13: RATE (1 .. 100)").rows(numbers(0, 4, 1, 100)).rows("rate(2) = 100");
        run("13: BONUS (0 .. 500)").rows(numbers(1, 10, 0, 500));
        run("13: FLOOD (1 .. 1000)").rows(numbers(2, 50, 1, 1000));
        run("13: FAME (0 .. 500)").rows(numbers(3, 25, 0, 500));
        run("13: CUSTOM (0, 1)").rows(numbers(4, 1, 0, 1));
        run("13, Terms 3: INTEREST (0 .. 50)").rows(numbers(5, 10, 0, 50));
    }

    private static String numbers(int what, int first, int least, int most) {
        return """
            set(WHAT, 2, BELOW) refused
            set(WHAT, 2, LOW) refused
            set(WHAT, 2, ABOVE) refused
            set(WHAT, 2, HIGH) refused
            set(WHAT, 2, LEAST) = FIRST
            set(WHAT, 2, BELOW) refused
            set(WHAT, 2, ABOVE) refused
            set(WHAT, 2, MOST) = LEAST
            set(WHAT, 2, BELOW) refused
            set(WHAT, 2, ABOVE) refused
            set(WHAT, 2, MOST) = MOST
            """.replace("WHAT", "" + what).replace("FIRST", "" + first)
                .replace("BELOW", "" + (least - 1)).replace("ABOVE", "" + (most + 1))
                .replace("LEAST", "" + least).replace("MOST", "" + most);
    }

    private static void setGrades() {
        run("13: of a GRADE").rows("""
            set(0, -1, 1) refused
            set(0, 5, 1) refused
            set(0, LOW, 1) refused
            set(0, HIGH, 1) refused
            set(1, -1, 1) refused
            set(1, 5, 1) refused
            set(1, LOW, 1) refused
            set(1, HIGH, 1) refused
            set(2, -1, 1) refused
            set(2, 5, 1) refused
            set(2, LOW, 1) refused
            set(2, HIGH, 1) refused
            set(0, 0, 90) = 1
            set(0, 4, 91) = 11
            set(1, 0, 92) = 0
            set(1, 4, 93) = 40
            set(2, 0, 94) = 50
            set(2, 4, 95) = 50
            set(0, 0, 1) = 90
            set(0, 1, 1) = 2
            set(0, 4, 1) = 91
            set(1, 0, 1) = 92
            set(1, 3, 1) = 20
            set(1, 4, 1) = 93
            set(2, 0, 1) = 94
            set(2, 2, 1) = 50
            set(2, 4, 1) = 95
            """);
        run("13: (GRADE doesn't matter)").rows("""
            set(3, -1, 1) = 25
            set(3, 5, 2) = 1
            set(3, LOW, 3) = 2
            set(3, HIGH, 4) = 3
            set(4, -1, 0) = 1
            set(4, 5, 1) = 0
            set(4, LOW, 0) = 1
            set(4, HIGH, 1) = 0
            set(5, -1, 1) = 10
            set(5, 5, 2) = 1
            set(5, LOW, 3) = 2
            set(5, HIGH, 4) = 3
            """);
    }

    private static void setWhat() {
        run("13: refused: others").rows("""
            set(-1, 0, 1) refused
            set(6, 0, 1) refused
            set(LOW, 0, 1) refused
            set(HIGH, 0, 1) refused
            set(0, 0, 2) = 1
            set(5, 0, 2) = 10
            """);
    }

    private static void rateGrades() {
        run("14: none such").rows("""
            rate(0) keeps 1
            rate(4) keeps 11
            rate(-1) refused
            rate(5) refused
            rate(LOW) refused
            rate(HIGH) refused
            """);
    }

    private static void floods() {
        run("Terms 1: less one for each FLOOD that is whole").rows("""
            string(0, 3, 0, 49)
            rate(3) = 7
            string(1, 3, 0, 1)
            rate(3) = 6
            add(0, 3, 0, 31)
            add(1, 3, 0, 18)
            rate(3) = 6
            add(1, 3, 0, 1)
            rate(3) = 5
            # other GRADES have no flood
            rate(4) = 11
            rate(2) = 4
            """);
        run("Terms 1: in all BEADS of GRADE g that there are").rows("""
            string(0, 4, 0, 40)
            add(0, 3, 0, 40)
            string(5, 4, 9, 9)
            rate(4) = 11
            add(1, 4, 1, 1)
            rate(4) = 10
            rate(3) = 7
            # cut, joined, turned and given they are as many
            cut(0, 20) = 2
            rate(4) = 10
            turn(2) = true
            give(2, 5) = true
            join(1, 2) = 70
            rate(4) = 10
            rate(3) = 7
            """);
        run("Terms 1: at least 1").rows("""
            set(0, 2, 3) = 4
            string(0, 2, 0, 50)
            rate(2) = 2
            string(0, 2, 0, 49)
            rate(2) = 2
            add(1, 2, 0, 1)
            rate(2) = 1
            string(0, 2, 0, 50)
            rate(2) = 1
            string(0, 2, 0, 50)
            rate(2) = 1
            """);
        run("Terms 1: BEADS of THE HEAP are in no STRING").rows("""
            heap(3, 60)
            rate(3) = 7
            count(6) = 0
            blame(4) = NONE
            """);
    }

    private static void floodsInTheEnds() {
        run("Terms 1: a FLOOD of 1").rows("""
            set(0, 4, 100) = 11
            set(2, 4, 1) = 50
            rate(4) = 100
            string(0, 4, 0, 1)
            rate(4) = 99
            string(0, 4, 0, 80)
            string(0, 4, 0, 17)
            rate(4) = 2
            add(0, 4, 0, 1)
            rate(4) = 1
            add(0, 4, 0, 1)
            rate(4) = 1
            add(0, 4, 0, 1)
            rate(4) = 1
            """);
        run("Terms 1: a FLOOD of 1000").rows("""
            set(2, 4, 1000) = 50
            """).times(12, "string(0, 4, 0, 80)").rows("""
            string(0, 4, 0, 39)
            count(6) = 999
            rate(4) = 11
            add(12, 4, 0, 1) = 40
            rate(4) = 10
            """).times(12, "string(0, 4, 0, 80)").rows("""
            string(0, 4, 0, 39)
            rate(4) = 10
            add(12, 4, 0, 1) = 41
            rate(4) = 9
            """);
    }

    private static void worthOfSpans() {
        run("Terms 1: SPANS (whole tens) times BONUS").rows("""
            string(0, 4, 0, 9)
            of(0, 4) = 99
            add(0, 4, 0, 1)
            of(0, 4) = 150
            add(0, 4, 0, 9)
            of(0, 4) = 249
            add(0, 4, 0, 1)
            of(0, 4) = 300
            """);
        run("Terms 1: by its least GRADE").rows("""
            string(0, 4, 0, 19)
            of(0, 4) = 249
            add(0, 3, 0, 1)
            of(0, 4) = 180
            add(0, 0, 0, 1)
            of(0, 4) = 21
            cut(0, 20)
            of(0, 4) = 180
            of(1, 4) = 1
            """);
        run("Terms 1: the RATE of g NOW").rows("""
            string(0, 4, 0, 10)
            of(0, 4) = 150
            string(1, 4, 0, 39)
            of(0, 4) = 150
            add(1, 4, 0, 1)
            of(0, 4) = 140
            """);
    }

    private static void worthAtTheEnds() {
        run("13: the most that a STRING can be worth").rows("""
            set(0, 0, 100) = 1
            set(1, 0, 500) = 0
            set(2, 0, 1000) = 50
            set(3, 0, 500) = 25
            string(0, 0, 0, 80)
            of(0, 4) = 12000
            name(0, 1)
            of(0, 4) = 12500
            serves(0, 12500) = 12500
            serves(0, 12501) = -2
            """);
        run("13: the least").rows("""
            set(0, 4, 1) = 11
            set(1, 4, 0) = 40
            set(3, 0, 0) = 25
            string(0, 4, 0, 80)
            name(0, 1)
            of(0, 4) = 80
            """);
    }

    private static void fame() {
        run("Terms 1: FAME if it has a NAME").rows("""
            string(0, 1, 0, 4)
            of(0, 4) = 8
            name(0, 1)
            of(0, 4) = 33
            set(3, 0, 0) = 25
            of(0, 4) = 8
            set(3, 0, 500) = 0
            of(0, 4) = 508
            set(4, 0, 0) = 1
            cut(0, 2)
            of(0, 4) = 4
            of(1, 4) = 4
            """);
    }

    private static void rich() {
        run("15: an OWNER; none such").rows("""
            rich(0) keeps 0
            rich(9) keeps 0
            string(0, 1, 0, 5)
            string(9, 2, 0, 10)
            string(9, 2, 0, 1)
            rich(0) keeps 10
            rich(9) keeps 54
            rich(1) keeps 0
            rich(-1) refused
            rich(10) refused
            rich(LOW) refused
            rich(HIGH) refused
            # a GONE one is worth 0
            join(1, 2)
            rich(9) keeps 54
            """);
        run("15: of all 40 STRINGS").times(40, "string(7, 0, 0, 80)").rows("""
            rich(7) keeps 3200
            """);
    }

    private static void drawn() {
        run("16: the span must lie within").rows("""
            string(0, 4, 0, 2)
            add(0, 1, 0, 1)
            add(0, 3, 0, 2)
            drawn(0, 0, 5) keeps 1
            drawn(0, 0, 6) refused
            drawn(0, 1, 4) keeps 1
            drawn(0, 1, 5) refused
            drawn(0, 4, 1) keeps 3
            drawn(0, 4, 2) refused
            drawn(0, 5, 1) refused
            drawn(0, 5, 0) refused
            drawn(0, 0, 1) keeps 4
            drawn(0, 0, 0) refused
            drawn(0, 0, -1) refused
            drawn(0, -1, 1) refused
            drawn(0, -1, 2) refused
            drawn(0, -1, 6) refused
            """);
        run("16: the least GRADE of the span alone").rows("""
            string(0, 0, 0, 1)
            add(0, 4, 0, 2)
            add(0, 2, 0, 1)
            drawn(0, 0, 1) keeps 0
            drawn(0, 0, 2) keeps 0
            drawn(0, 1, 2) keeps 4
            drawn(0, 1, 3) keeps 2
            drawn(0, 3, 1) keeps 2
            """);
        run("16: a place and a length that would wrap around").rows("""
            string(0, 4, 0, 5)
            drawn(0, 1, HIGH) refused
            drawn(0, 0, HIGH) refused
            drawn(0, HIGH, 1) refused
            drawn(0, HIGH, HIGH) refused
            drawn(0, LOW, LOW) refused
            drawn(0, LOW, HIGH) refused
            drawn(0, HIGH, LOW) refused
            drawn(0, 2, LOW) refused
            """);
        run("16: none such").rows("""
            string(0, 4, 0, 80)
            string(0, 3, 0, 1)
            drawn(0, 0, 80) keeps 4
            drawn(0, 79, 1) keeps 4
            drawn(0, 0, 81) refused
            drawn(1, 0, 1) keeps 3
            drawn(2, 0, 1) refused
            drawn(-1, 0, 1) refused
            drawn(39, 0, 1) refused
            drawn(40, 0, 1) refused
            drawn(LOW, 0, 1) refused
            drawn(HIGH, 0, 1) refused
            """);
    }

    private static void cheat() {
        run("17: of a GRADE below one").rows("""
            string(0, 4, 0, 3)
            add(0, 3, 0, 1)
            add(0, 0, 0, 1)
            cheat(0, 5) keeps 0
            cheat(0, 4) keeps 3
            cheat(0, 3) keeps 4
            cheat(0, 1) keeps 4
            cheat(0, 0) refused
            cheat(0, -1) refused
            cheat(0, LOW) refused
            cheat(0, HIGH) keeps 0
            """);
        run("17: the first place, up to the last").rows("""
            string(0, 2, 0, 79)
            cheat(0, 2) refused
            cheat(0, 3) keeps 0
            add(0, 1, 0, 1)
            cheat(0, 2) keeps 79
            turn(0)
            cheat(0, 2) keeps 0
            """);
        run("17: none such").rows("""
            string(0, 2, 0, 1)
            string(0, 2, 0, 1)
            cheat(1, 3) keeps 0
            cheat(2, 3) refused
            cheat(-1, 3) refused
            cheat(39, 3) refused
            cheat(40, 3) refused
            cheat(LOW, HIGH) refused
            cheat(HIGH, HIGH) refused
            """);
    }

    private static void blameGrades() {
        run("18: there are none, no such GRADE").rows("""
            blame(0) refused
            blame(4) refused
            string(0, 4, 7, 5)
            # a BEAD of GRADE 4 is below no GRADE that there is
            blame(4) refused
            blame(5) refused
            blame(-1) refused
            blame(LOW) refused
            blame(HIGH) refused
            string(1, 3, 9, 1)
            blame(4) keeps 9
            blame(3) refused
            string(1, 0, 0, 2)
            blame(4) keeps 0
            blame(1) keeps 0
            blame(0) refused
            blame(5) refused
            """);
    }

    private static void blameEquals() {
        run("18: of equal ones the least").rows("""
            string(0, 1, 9, 5)
            string(0, 1, 8, 4)
            blame(2) keeps 9
            add(1, 0, 8, 1)
            blame(2) keeps 8
            add(0, 1, 9, 1)
            blame(2) keeps 9
            string(0, 1, 0, 6)
            blame(2) keeps 0
            blame(1) keeps 8
            """);
        run("18: in all STRINGS").rows("""
            string(0, 1, 3, 3)
            string(1, 1, 4, 2)
            string(2, 1, 4, 1)
            blame(4) keeps 3
            add(2, 2, 4, 1)
            blame(4) keeps 4
            blame(2) keeps 3
            join(0, 1) refused
            cut(1, 1) = 3
            blame(4) keeps 4
            """);
    }
}
