/**
 * Terms 2: EVENTS, "at most 200 in all (then what would make one more is refused)": each call that
 * tells EVENTS, where they just fit and where they would be one too many.
 */
public final class TaleBoundsTest {
    private static final Check CHECK = new Check();

    /**
     * STRING 0, NAMED 1, goes to and fro and tells EVENTS. Of OWNER 0 are STRINGS 1 and 2, NAMED, and
     * 3 and 4, not NAMED; of OWNER 5 are 5, 6 and 7, NAMED, and 8, not NAMED: as FAME is 0, a sum says
     * by its bits which of them are paid. OWNER 0 owes a SPAN to 1.
     */
    private static final String SCENE = """
        string(9, 0, 0, 10)
        string(0, 0, 0, 10)
        string(0, 0, 0, 10)
        string(0, 0, 0, 10)
        string(0, 0, 0, 10)
        string(5, 0, 0, 1)
        string(5, 0, 0, 2)
        string(5, 0, 0, 4)
        string(5, 0, 0, 8)
        name(0, 1)
        name(1, 2)
        name(2, 3)
        name(5, 4)
        name(6, 5)
        name(7, 6)
        set(3, 0, 0) = 25
        owe(0, 1, 1, 0) = 0
        """;

    /** Each tells one EVENT. */
    private static final String[] ONE = {
        "name(3, 10) = true",
        "give(1, 3) = true",
        "cut(1, 5) = 9",
        "cut(1, 1) = 9",
        "cut(1, 9) = 9",
        "join(1, 3) = 20",
        "join(3, 1) = 20",
        "pay(5, 6, 1) = 0",
        "pay(5, 6, 9) = 0",
        "settle(0, 1) = true",
    };

    /** Each tells two. */
    private static final String[] TWO = {
        "name(1, 10) = true",
        "join(1, 2) = 20",
        "join(2, 1) = 20",
        "pay(5, 6, 3) = 0",
        "pay(5, 6, 14) = 0",
    };

    /** Each tells three. */
    private static final String[] THREE = {
        "pay(5, 6, 7) = 0",
        "pay(5, 6, 15) = 0",
    };

    /** None of these tells any. */
    private static final String[] NO_EVENT = {
        "string(0, 0, 0, 1) = 9",
        "add(1, 0, 0, 1) = 11",
        "turn(1) = true",
        "give(3, 3) = true",
        "cut(3, 5) = 9",
        "join(3, 4) = 20",
        "pay(5, 6, 8) = 0",
        "settle(0, 3) = true",
        "serves(5, 7) = 7",
        "owe(1, 0, 1, 0) = 1",
        "year() = 1",
        "set(4, 0, 0) = 1",
        "heap(0, 60) = true",
    };

    public static void main(String[] args) {
        fits(ONE, 1);
        fits(TWO, 2);
        fits(THREE, 3);
        refused(ONE, 200);
        refused(TWO, 200);
        refused(THREE, 200);
        refused(TWO, 199);
        refused(THREE, 199);
        refused(THREE, 198);
        withoutEvents();
        cutByNoCustom();
        theLastEvents();
        refusedForMore();
        CHECK.close();
    }

    private static Run sceneAt(String words, int events) {
        return new Run(CHECK, words + " at " + events + " EVENTS").rows(SCENE).tellEvents(0, events);
    }

    private static void fits(String[] calls, int events) {
        for (String call : calls) {
            sceneAt("at most 200 in all, " + events + " more", 200 - events).rows(call).rows("count(5) = 200");
        }
    }

    private static void refused(String[] calls, int events) {
        Run run = sceneAt("one more than 200 is refused", events);
        for (String call : calls) {
            run.rows(call.substring(0, call.indexOf('=')) + " refused");
        }
        run.rows("count(5) = " + events);
    }

    private static void withoutEvents() {
        for (String call : NO_EVENT) {
            sceneAt("what makes no EVENT is not refused", 200).rows(call).rows("count(5) = 200");
        }
    }

    private static void cutByNoCustom() {
        sceneAt("a NAME that a cut loses is an EVENT too", 199).rows("""
            set(4, 0, 0) = 1
            cut(1, 5) = 9
            tale(2, 1, 0) = 5
            count(5) = 200
            """);
        sceneAt("a NAME that a cut would lose", 200).rows("""
            set(4, 0, 0) = 1
            cut(1, 5) refused
            cut(3, 5) = 9
            named(2) = 1
            """);
    }

    private static void theLastEvents() {
        new Run(CHECK, "12: a TALE of 200 EVENTS").rows("""
            string(9, 0, 0, 10)
            name(0, 1)
            """).tellEvents(0, 199).rows("""
            tale(1, 198, 0) = 2
            tale(1, 199, 0) refused
            year() = 1
            give(0, 3) = true
            tale(1, 199, 0) = 2
            tale(1, 199, 1) = 3
            tale(1, 199, 2) = 1
            tale(1, 200, 0) refused
            give(0, 4) refused
            """);
        sceneAt("in all: of all TALES together", 199).rows("""
            tale(1, 193, 0) = 2
            tale(1, 194, 0) = NONE
            give(1, 3) = true
            tale(2, 1, 1) = 3
            give(2, 3) refused
            give(0, 3) refused
            tale(3, 1, 0) = NONE
            """);
    }

    /** A call that two words of its promise refuse is refused once, and -2 stays -2. */
    private static void refusedForMore() {
        sceneAt("20: -2 as serves()", 200).rows("""
            pay(5, 6, 16) keeps -2
            pay(5, 5, 1) refused
            pay(5, 5, 16) refused
            serves(5, 15) keeps 15
            """);
        sceneAt("4, 5, 7, 8: refused for another thing", 200).rows("""
            cut(1, 10) refused
            join(1, 1) refused
            name(1, 2) refused
            give(1, 0) refused
            settle(1, 1) refused
            """);
    }
}
