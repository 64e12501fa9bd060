/** The bounds that the document tells of THE HEAP (promises 26 to 29): just inside, just beyond. */
public final class HeapBoundsTest {
    private static final Check CHECK = new Check();

    public static void main(String[] args) {
        heapNumbers();
        heapGrades();
        heapInAll();
        emptyHeap();
        parts();
        fewestStrings();
        longestFirst();
        wholeSpans();
        ratesNowNoNames();
        CHECK.close();
    }

    private static Run run(String words) {
        return new Run(CHECK, words);
    }

    private static void heapNumbers() {
        run("26, Terms 4: by number, 0 .. 60 in all").rows("""
            heap(2, -1) refused
            heap(2, LOW) refused
            heap(2, 61) refused
            heap(2, HIGH) refused
            heap(2, 0) = true
            count(7) = 0
            heap(2, 60) = true
            count(7) = 60
            heap(2, 61) refused
            heap(2, -1) refused
            # n is what it has then, not what comes to it
            heap(2, 60) = true
            heap(2, 59) = true
            count(7) = 59
            heap(2, 1) = true
            count(7) = 1
            heap(2, 0) = true
            count(7) = 0
            """);
    }

    private static void heapGrades() {
        run("26: of a GRADE").rows("""
            heap(-1, 1) refused
            heap(5, 1) refused
            heap(LOW, 1) refused
            heap(HIGH, 1) refused
            heap(-1, 0) refused
            heap(5, 0) refused
            heap(0, 1) = true
            heap(4, 1) = true
            count(7) = 2
            strung() = 12
            """);
    }

    private static void heapInAll() {
        run("26: more than 60 in all").rows("""
            heap(0, 20) = true
            heap(4, 41) refused
            heap(4, 40) = true
            count(7) = 60
            heap(1, 1) refused
            heap(1, 0) = true
            heap(0, 21) refused
            heap(0, 20) = true
            # with these a sum of BEADS would wrap around
            heap(1, HIGH) refused
            heap(4, HIGH) refused
            heap(1, LOW) refused
            heap(0, 19) = true
            heap(1, 2) refused
            heap(1, 1) = true
            count(7) = 60
            """);
        run("26: more than 60 in all, of five GRADES").rows("""
            heap(0, 12) = true
            heap(1, 12) = true
            heap(2, 12) = true
            heap(3, 12) = true
            heap(4, 13) refused
            heap(4, 12) = true
            heap(2, 13) refused
            heap(2, 11) = true
            heap(0, 13) = true
            count(7) = 60
            """);
    }

    private static void emptyHeap() {
        run("27, 28, 29: an empty HEAP").rows("""
            strung() keeps 0
            strings() keeps 0
            part(0) refused
            part(-1) refused
            heap(3, 1) = true
            strung() keeps 7
            strings() keeps 1
            part(0) keeps 1
            part(1) refused
            heap(3, 0) = true
            strung() keeps 0
            strings() keeps 0
            part(0) refused
            """);
    }

    private static void parts() {
        run("29: NONE for none such").rows("""
            heap(4, 3)
            heap(2, 2)
            heap(0, 1)
            strings() keeps 3
            part(0) keeps 3
            part(1) keeps 2
            part(2) keeps 1
            part(3) refused
            part(-1) refused
            part(59) refused
            part(60) refused
            part(61) refused
            part(LOW) refused
            part(HIGH) refused
            """);
        run("Terms 4: STRINGS of 1 to 80 BEADS: all 60 in one").rows("""
            heap(4, 60)
            strung() keeps 900
            strings() keeps 1
            part(0) keeps 60
            part(1) refused
            """);
        run("Terms 4: of one BEAD each").rows("""
            heap(4, 1)
            heap(3, 1)
            heap(2, 1)
            heap(1, 1)
            heap(0, 1)
            strung() keeps 25
            strings() keeps 5
            part(0) keeps 1
            part(4) keeps 1
            part(5) refused
            """);
        run("28, 29: by themselves, behind a change").rows("""
            heap(4, 3)
            heap(0, 2)
            strings() = 2
            heap(2, 4)
            part(1) = 4
            heap(0, 0)
            part(2) = NONE
            heap(4, 0)
            part(0) = 4
            strings() = 1
            """);
        run("27: another HEAP of as many BEADS").rows("""
            heap(4, 10)
            strung() = 150
            heap(4, 0)
            heap(0, 10)
            strung() = 10
            heap(0, 0)
            heap(3, 10)
            strung() = 90
            """);
    }

    private static void fewestStrings() {
        run("Terms 4: of equal ones the fewest STRINGS").rows("""
            set(0, 4, 2) = 11
            set(0, 3, 2) = 7
            set(1, 4, 6) = 40
            set(1, 3, 6) = 20
            heap(4, 15)
            heap(3, 6)
            # 11 and 10 would be worth as much
            strung() = 54
            strings() = 1
            part(0) = 21
            # a little more for GRADE 4, and they are worth more
            set(1, 4, 7) = 6
            strung() = 55
            strings() = 2
            """);
        run("Terms 4: the fewest STRINGS go before the longest first one").rows("""
            set(0, 4, 3) = 11
            set(0, 3, 2) = 7
            set(0, 2, 1) = 4
            set(1, 3, 1) = 20
            set(1, 2, 10) = 10
            heap(4, 2)
            heap(3, 8)
            heap(2, 1)
            # 2, 8 and 1 would be worth as much
            strung() = 23
            strings() = 2
            part(0) = 1
            part(1) = 10
            """);
    }

    private static void longestFirst() {
        run("Terms 4: then the longest first one").rows("""
            set(0, 4, 2) = 11
            set(0, 3, 2) = 7
            set(1, 4, 20) = 40
            set(1, 3, 6) = 20
            heap(4, 12)
            heap(3, 9)
            # 10 and 11, 11 and 10 are worth as much; 12 and 9 less
            strung() = 68
            strings() = 2
            part(0) = 11
            part(1) = 10
            """);
        run("Terms 4: and so on").rows("""
            set(0, 4, 5) = 11
            set(0, 3, 2) = 7
            set(0, 2, 2) = 4
            set(1, 3, 20) = 20
            set(1, 2, 6) = 10
            heap(4, 3)
            heap(3, 12)
            heap(2, 9)
            strung() = 83
            strings() = 3
            part(0) = 3
            part(1) = 11
            part(2) = 10
            part(3) = NONE
            """);
    }

    private static void wholeSpans() {
        run("Terms 4: for the greatest WORTH together, 9 BEADS and 10").rows("""
            heap(4, 9)
            heap(3, 1)
            # 99 and 7 apart; 70 and the BONUS of a SPAN together
            strung() = 106
            strings() = 2
            set(1, 3, 36) = 20
            strung() = 106
            # as much together: the fewest STRINGS
            strings() = 1
            set(1, 3, 35) = 36
            strung() = 106
            strings() = 2
            part(0) = 9
            part(1) = 1
            set(1, 3, 37) = 35
            strung() = 107
            strings() = 1
            part(0) = 10
            """);
        run("Terms 4: the best GRADE first").rows("""
            heap(0, 2)
            heap(4, 1)
            heap(1, 3)
            strung() = 19
            part(0) = 1
            part(1) = 3
            part(2) = 2
            """);
    }

    private static void ratesNowNoNames() {
        run("Terms 4: RATES NOW").rows("""
            heap(4, 10)
            strung() = 150
            string(0, 4, 0, 49)
            strung() = 150
            add(0, 4, 0, 1)
            strung() = 140
            set(2, 4, 1) = 50
            strung() = 50
            # THE HEAP itself floods nothing
            heap(3, 50)
            rate(3) = 7
            """);
        run("Terms 4: no NAMES").rows("""
            heap(4, 10)
            set(3, 0, 500) = 25
            string(0, 4, 0, 1)
            name(0, 1)
            strung() keeps 150
            strings() keeps 1
            """);
    }
}
