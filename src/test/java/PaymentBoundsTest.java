/** The bounds that the document tells of payments and DEBTS (promises 19 to 25): just inside, just beyond. */
public final class PaymentBoundsTest {
    private static final Check CHECK = new Check();

    public static void main(String[] args) {
        servesSums();
        servesOwners();
        servesTheSumOrMore();
        servesTwelve();
        payAmongEquals();
        payArguments();
        payTwelve();
        oweArguments();
        oweSixty();
        settleSpans();
        settleGrades();
        settleByWhom();
        settleWhat();
        debt();
        yearHundred();
        interestCutDown();
        tenThousand();
        count();
        CHECK.close();
    }

    private static Run run(String words) {
        return new Run(CHECK, words);
    }

    private static void servesSums() {
        run("19: a sum (1 .. 1000000)").rows("""
            string(0, 0, 0, 5)
            serves(0, 1) keeps 5
            serves(0, 0) refused
            serves(0, -1) refused
            serves(0, LOW) refused
            serves(0, 1000000) keeps -2
            serves(0, 1000001) refused
            serves(0, HIGH) refused
            """);
        run("19: a sum, without STRINGS").rows("""
            serves(0, 1) keeps -2
            serves(0, 0) refused
            serves(0, 1000000) keeps -2
            serves(0, 1000001) refused
            """);
    }

    private static void servesOwners() {
        run("19: by an OWNER").rows("""
            string(0, 0, 0, 5)
            string(9, 0, 0, 6)
            serves(0, 1) keeps 5
            serves(9, 1) keeps 6
            serves(-1, 1) refused
            serves(10, 1) refused
            serves(LOW, 1) refused
            serves(HIGH, 1) refused
            serves(10, 0) refused
            # of one whose only STRING is GONE
            string(0, 0, 0, 1)
            join(0, 2)
            give(0, 9) = true
            serves(0, 1) keeps -2
            """);
    }

    private static void servesTheSumOrMore() {
        run("Terms 3: the sum or more: the one with the least WORTH").rows("""
            string(1, 0, 0, 5)
            string(1, 0, 0, 8)
            string(2, 0, 0, 1)
            string(1, 0, 0, 12)
            serves(1, 5) keeps 5
            serves(1, 6) keeps 8
            serves(1, 8) keeps 8
            serves(1, 9) keeps 12
            serves(1, 12) keeps 12
            serves(1, 13) keeps 13
            serves(1, 14) keeps 17
            serves(1, 17) keeps 17
            serves(1, 18) keeps 20
            serves(1, 20) keeps 20
            serves(1, 21) keeps 25
            serves(1, 25) keeps 25
            serves(1, 26) keeps -2
            """);
    }

    private static void servesTwelve() {
        run("19, Terms 3: more than 12 STRINGS").times(11, "string(4, 0, 0, 2)").rows("""
            string(4, 0, 0, 1)
            # of others there may be more
            string(5, 0, 0, 1)
            serves(4, 1) keeps 1
            serves(4, 23) keeps 23
            serves(4, 24) keeps -2
            string(4, 0, 0, 1) = 13
            serves(4, 1) refused
            serves(4, 24) refused
            # refused, though all together have less
            serves(4, 25) refused
            serves(4, 1000000) refused
            # a GONE one does not count
            join(0, 13) = 3
            serves(4, 24) keeps 24
            serves(4, 25) keeps -2
            cut(0, 1) = 14
            serves(4, 24) refused
            give(1, 5) = true
            serves(4, 22) keeps 22
            serves(4, 23) keeps -2
            """);
        run("19: all 40").times(40, "string(4, 0, 0, 2)").rows("""
            serves(4, 1) refused
            serves(3, 1) keeps -2
            """);
    }

    private static void payAmongEquals() {
        run("Terms 3: of equal ones the fewest STRINGS").rows("""
            string(0, 0, 0, 3)
            string(0, 0, 0, 4)
            string(0, 0, 0, 7)
            pay(0, 1, 7) = 0
            of(0, 1) = 0
            of(1, 1) = 0
            of(2, 1) = 1
            """);
        run("Terms 3: of as many the least number as bits").rows("""
            string(0, 0, 0, 2)
            string(0, 0, 0, 3)
            string(0, 0, 0, 4)
            string(0, 0, 0, 5)
            # bits 1 and 2 are 6, bits 0 and 3 are 9
            pay(0, 1, 7) = 0
            of(0, 1) = 0
            of(1, 1) = 1
            of(2, 1) = 1
            of(3, 1) = 0
            """);
        run("Terms 3: the least number as bits, of single ones").rows("""
            string(0, 0, 0, 9)
            string(0, 0, 0, 6)
            string(0, 0, 0, 6)
            pay(0, 1, 5) = 1
            of(0, 1) = 0
            of(1, 1) = 1
            of(2, 1) = 0
            """);
        run("Terms 3: the least WORTH goes before the fewest STRINGS").rows("""
            string(0, 0, 0, 8)
            string(0, 0, 0, 3)
            string(0, 0, 0, 4)
            pay(0, 1, 6) = 1
            of(0, 1) = 0
            of(1, 1) = 1
            of(2, 1) = 1
            """);
    }

    private static void payArguments() {
        run("20: to another OWNER; also to itself").rows("""
            string(0, 0, 0, 5)
            string(9, 0, 0, 5)
            pay(0, 0, 1) refused
            pay(9, 9, 1) refused
            # to itself it is refused even if all together have less
            pay(0, 0, 6) refused
            pay(0, -1, 1) refused
            pay(0, 10, 1) refused
            pay(0, LOW, 1) refused
            pay(0, HIGH, 1) refused
            pay(0, 10, 6) refused
            pay(-1, 0, 1) refused
            pay(10, 0, 1) refused
            pay(LOW, 0, 1) refused
            pay(HIGH, 0, 1) refused
            pay(-1, -1, 1) refused
            pay(0, 9, 1) = 4
            of(0, 1) = 9
            pay(9, 0, 10) = 0
            of(0, 1) = 0
            of(1, 1) = 0
            """);
        run("20: a sum as serves()").rows("""
            string(0, 0, 0, 5)
            pay(0, 1, 0) refused
            pay(0, 1, -1) refused
            pay(0, 1, LOW) refused
            pay(0, 1, 1000001) refused
            pay(0, 1, HIGH) refused
            pay(0, 1, 1000000) keeps -2
            pay(0, 1, 6) keeps -2
            pay(0, 1, 5) = 0
            of(0, 1) = 1
            # nothing is left
            pay(0, 1, 1) keeps -2
            """);
        run("20: WORTH less the sum").rows("""
            string(0, 0, 0, 5)
            pay(0, 1, 1) = 4
            pay(1, 2, 4) = 1
            pay(2, 3, 5) = 0
            of(0, 1) = 3
            """);
    }

    private static void payTwelve() {
        run("20: more than 12 STRINGS, as serves()").times(13, "string(4, 0, 0, 1)").rows("""
            pay(4, 5, 1) refused
            pay(4, 5, 14) refused
            join(0, 12) = 2
            pay(4, 5, 14) keeps -2
            pay(4, 5, 13) = 0
            of(0, 1) = 5
            of(11, 1) = 5
            # the GONE one is not paid with
            of(12, 1) = 4
            rich(4) = 0
            """);
        run("20: whom it is paid to may have more than 12").times(12, "string(5, 0, 0, 1)").rows("""
            string(4, 0, 0, 1)
            pay(4, 5, 1) = 0
            rich(5) = 13
            pay(5, 4, 1) refused
            """);
    }

    private static void oweArguments() {
        run("21, Terms 3: SPANS (1 .. 99)").rows("""
            owe(0, 1, 0, 0) refused
            owe(0, 1, -1, 0) refused
            owe(0, 1, 100, 0) refused
            owe(0, 1, LOW, 0) refused
            owe(0, 1, HIGH, 0) refused
            owe(0, 1, 1, 0) = 0
            owe(0, 1, 99, 0) = 1
            debt(0, 2) = 1
            debt(1, 2) = 99
            """);
        run("21: a GRADE 0 .. 4").rows("""
            owe(0, 1, 1, -1) refused
            owe(0, 1, 1, 5) refused
            owe(0, 1, 1, LOW) refused
            owe(0, 1, 1, HIGH) refused
            owe(0, 1, 1, 0) = 0
            owe(0, 1, 1, 4) = 1
            debt(0, 3) = 0
            debt(1, 3) = 4
            """);
        run("21: an OWNER to itself; OWNERS 0 .. 9").rows("""
            owe(0, 0, 1, 0) refused
            owe(9, 9, 1, 0) refused
            owe(-1, 0, 1, 0) refused
            owe(10, 0, 1, 0) refused
            owe(LOW, 0, 1, 0) refused
            owe(HIGH, 0, 1, 0) refused
            owe(0, -1, 1, 0) refused
            owe(0, 10, 1, 0) refused
            owe(0, LOW, 1, 0) refused
            owe(0, HIGH, 1, 0) refused
            owe(-1, -1, 1, 0) refused
            owe(0, 9, 1, 0) = 0
            owe(9, 0, 1, 0) = 1
            debt(0, 0) = 0
            debt(0, 1) = 9
            debt(1, 0) = 9
            debt(1, 1) = 0
            """);
    }

    private static void oweSixty() {
        run("21, Terms 3: DEBTS at most 60").times(59, "owe(3, 4, 1, 0)").rows("""
            count(2) = 59
            owe(3, 4, 2, 0) = 59
            owe(3, 4, 1, 0) refused
            debt(59, 2) = 2
            debt(60, 2) refused
            # one that is PAID still has its number
            string(3, 0, 0, 20)
            settle(59, 0) = true
            owe(3, 4, 1, 0) refused
            count(2) = 60
            count(3) = 1
            """);
    }

    private static void settleSpans() {
        run("22, Terms 3: at least as many SPANS").rows("""
            owe(3, 4, 2, 1)
            string(3, 1, 0, 19)
            settle(0, 0) refused
            add(0, 1, 0, 1) = 20
            settle(0, 0) = true
            of(0, 1) = 4
            debt(0, 2) = 0
            debt(0, 4) = 0
            """);
        run("22: more SPANS than are owed").rows("""
            owe(3, 4, 1, 1)
            string(3, 1, 0, 80)
            settle(0, 0) = true
            of(0, 0) = 80
            """);
        run("22: SPANS NOW, not those at first").rows("""
            owe(3, 4, 2, 1)
            string(3, 1, 0, 29)
            set(5, 0, 50)
            year() = 1
            debt(0, 2) = 3
            settle(0, 0) refused
            add(0, 1, 0, 1) = 30
            settle(0, 0) = true
            debt(0, 4) = 1
            """);
        run("22: the longest STRING has 8 SPANS").rows("""
            owe(3, 4, 9, 0)
            owe(3, 4, 8, 0)
            string(3, 0, 0, 80)
            settle(0, 0) refused
            settle(1, 0) = true
            """);
    }

    private static void settleGrades() {
        run("22, Terms 3: a least GRADE not below g").rows("""
            owe(3, 4, 1, 2)
            string(3, 3, 0, 9)
            add(0, 1, 0, 1)
            settle(0, 0) refused
            string(3, 3, 0, 9)
            add(1, 2, 0, 1)
            settle(0, 1) = true
            """);
        run("22: a better GRADE, GRADES 0 and 4").rows("""
            owe(3, 4, 1, 4)
            owe(3, 4, 1, 0)
            owe(3, 4, 1, 2)
            string(3, 3, 0, 10)
            string(3, 4, 0, 10)
            string(3, 0, 0, 10)
            settle(0, 0) refused
            settle(0, 2) refused
            settle(2, 2) refused
            settle(0, 1) = true
            settle(1, 2) = true
            settle(2, 0) = true
            count(3) = 3
            """);
    }

    private static void settleByWhom() {
        run("22, Terms 3: by who owes, to whom it is owed").rows("""
            owe(3, 4, 1, 0)
            string(4, 0, 0, 10)
            string(5, 0, 0, 10)
            string(3, 0, 0, 10)
            name(2, 7)
            settle(0, 0) refused
            settle(0, 1) refused
            year() = 1
            settle(0, 2) = true
            of(2, 1) = 4
            tale(7, 1, 0) = 2
            tale(7, 1, 1) = 4
            tale(7, 1, 2) = 1
            count(5) = 2
            """);
    }

    private static void settleWhat() {
        run("22: none such, PAID, GONE").rows("""
            owe(3, 4, 1, 0)
            owe(3, 4, 1, 0)
            string(3, 0, 0, 10)
            string(3, 0, 0, 10)
            string(3, 0, 0, 10)
            settle(2, 0) refused
            settle(-1, 0) refused
            settle(59, 0) refused
            settle(60, 0) refused
            settle(LOW, 0) refused
            settle(HIGH, 0) refused
            settle(0, 3) refused
            settle(0, -1) refused
            settle(0, 39) refused
            settle(0, 40) refused
            settle(0, LOW) refused
            settle(0, HIGH) refused
            join(0, 1) = 20
            settle(0, 1) refused
            settle(1, 0) = true
            settle(1, 2) refused
            # back with who owes, it pays nothing twice
            give(0, 3) = true
            settle(1, 0) refused
            settle(0, 0) = true
            """);
    }

    private static void debt() {
        run("23: none such, another what").rows("""
            debt(0, 0) refused
            owe(8, 2, 30, 3)
            debt(0, 0) keeps 8
            debt(0, 1) keeps 2
            debt(0, 2) keeps 30
            debt(0, 3) keeps 3
            debt(0, 4) keeps NONE
            debt(0, -1) refused
            debt(0, 5) refused
            debt(0, LOW) refused
            debt(0, HIGH) refused
            debt(1, 0) refused
            debt(-1, 0) refused
            debt(59, 0) refused
            debt(60, 0) refused
            debt(LOW, 0) refused
            debt(HIGH, 0) refused
            """);
        run("23: SPANS NOW 0 if PAID; the YEAR in which it was PAID").rows("""
            owe(8, 2, 1, 3)
            owe(8, 2, 1, 3)
            string(8, 3, 0, 10)
            string(8, 3, 0, 10)
            settle(0, 0) = true
            debt(0, 2) = 0
            debt(0, 4) = 0
            debt(1, 4) = NONE
            set(5, 0, 50)
            year() = 1
            settle(1, 1) = true
            debt(0, 2) = 0
            debt(0, 4) = 0
            debt(1, 4) = 1
            """);
    }

    private static void yearHundred() {
        run("24: refused: it is 100").rows("""
            string(8, 3, 0, 10)
            """).times(98, "year()").rows("""
            year() = 99
            owe(8, 2, 20, 3)
            owe(8, 2, 1, 3)
            year() = 100
            debt(0, 2) = 22
            name(0, 1)
            year() refused
            count(4) = 100
            debt(0, 2) = 22
            tale(1, 0, 2) = 100
            settle(1, 0) = true
            debt(1, 4) = 100
            year() refused
            """);
    }

    private static void interestCutDown() {
        run("Terms 3: grows by INTEREST of a hundred, cut down").rows("""
            owe(0, 1, 9, 0)
            owe(0, 1, 10, 0)
            owe(0, 1, 19, 0)
            owe(0, 1, 20, 0)
            year() = 1
            debt(0, 2) = 9
            debt(1, 2) = 11
            debt(2, 2) = 20
            debt(3, 2) = 22
            year() = 2
            debt(0, 2) = 9
            debt(1, 2) = 12
            debt(2, 2) = 22
            debt(3, 2) = 24
            """);
        run("Terms 3: INTEREST 50, 1 and 0").rows("""
            owe(0, 1, 1, 0)
            owe(0, 1, 2, 0)
            owe(0, 1, 3, 0)
            owe(0, 1, 99, 0)
            set(5, 0, 1) = 10
            year() = 1
            debt(3, 2) = 99
            set(5, 0, 50) = 1
            year() = 2
            debt(0, 2) = 1
            debt(1, 2) = 3
            debt(2, 2) = 4
            debt(3, 2) = 148
            set(5, 0, 1) = 50
            year() = 3
            debt(3, 2) = 149
            set(5, 0, 0) = 1
            year() = 4
            debt(1, 2) = 3
            debt(3, 2) = 149
            """);
        run("Terms 3: in each YEAR to come").rows("""
            year() = 1
            owe(0, 1, 10, 0)
            debt(0, 2) = 10
            year() = 2
            debt(0, 2) = 11
            """);
        run("Terms 3: all 60").times(60, "owe(0, 1, 10, 0)").rows("""
            year() = 1
            debt(0, 2) = 11
            debt(59, 2) = 11
            """);
    }

    /** Ten YEARS at 50 of a hundred bring 99 SPANS to 5679. */
    private static Run grown(String words) {
        return run(words).rows("""
            owe(0, 1, 99, 0)
            set(5, 0, 50)
            """).times(10, "year()").rows("debt(0, 2) = 5679");
    }

    private static void tenThousand() {
        grown("24: never above 10000: 9999").rows("""
            set(5, 0, 42)
            year()
            debt(0, 2) = 8064
            set(5, 0, 24)
            year()
            debt(0, 2) = 9999
            set(5, 0, 0)
            year()
            debt(0, 2) = 9999
            set(5, 0, 1)
            year()
            debt(0, 2) = 10000
            """);
        grown("24: never above 10000: just 10000").rows("""
            set(5, 0, 48)
            year()
            debt(0, 2) = 8404
            set(5, 0, 19)
            year()
            debt(0, 2) = 10000
            set(5, 0, 0)
            year()
            debt(0, 2) = 10000
            set(5, 0, 50)
            year()
            debt(0, 2) = 10000
            """);
        grown("24: never above 10000: 10001").rows("""
            set(5, 0, 19)
            year()
            debt(0, 2) = 6758
            set(5, 0, 48)
            year()
            debt(0, 2) = 10000
            """);
        grown("24: never above 10000 up to the last YEAR").times(89, "year()").rows("""
            debt(0, 2) = 10000
            year() = 100
            debt(0, 2) = 10000
            """);
    }

    private static void count() {
        run("25: NONE for another what").rows("""
            string(0, 1, 0, 5)
            string(0, 1, 0, 6)
            string(0, 1, 0, 12)
            join(0, 1)
            owe(0, 1, 1, 0)
            owe(0, 1, 1, 0)
            settle(1, 2)
            year()
            name(0, 1)
            name(0, 2)
            heap(0, 7)
            heap(3, 2)
            count(0) keeps 3
            count(1) keeps 1
            count(2) keeps 2
            count(3) keeps 1
            count(4) keeps 1
            count(5) keeps 3
            count(6) keeps 23
            count(7) keeps 9
            count(8) refused
            count(-1) refused
            count(LOW) refused
            count(HIGH) refused
            """);
        run("25: those GONE, the first and the last of 40").times(40, "string(0, 1, 0, 2)").rows("""
            count(1) = 0
            join(1, 0) = 4
            count(1) = 1
            join(1, 39) = 6
            count(1) = 2
            count(0) = 40
            """);
        run("25: those PAID, the first and the last of 60").times(60, "owe(0, 1, 1, 0)").rows("""
            string(0, 0, 0, 10)
            string(0, 0, 0, 10)
            count(3) = 0
            settle(59, 0) = true
            count(3) = 1
            settle(0, 1) = true
            count(3) = 2
            """);
        run("25: BEADS in all, of every GRADE").rows("""
            string(0, 0, 0, 1)
            count(6) = 1
            string(0, 4, 0, 80)
            count(6) = 81
            add(0, 1, 0, 79) = 80
            count(6) = 160
            # THE HEAP has a count of its own
            heap(2, 60)
            count(6) = 160
            count(7) = 60
            """);
    }
}
