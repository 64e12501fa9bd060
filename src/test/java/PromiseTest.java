/** Promise by promise: ordinary inputs, the edges that the document names, and wrong inputs. */
public final class PromiseTest {
    private static final int NONE = ShellMoney.NONE;
    private static final int LOW = Integer.MIN_VALUE;
    private static final int HIGH = Integer.MAX_VALUE;

    private static final Check CHECK = new Check();
    private static String at = "";

    public static void main(String[] args) {
        aNewObject();
        string();
        add();
        cut();
        cutAndNames();
        join();
        joinAndNames();
        turn();
        name();
        give();
        of();
        bead();
        named();
        tale();
        fullTale();
        set();
        rate();
        worth();
        rich();
        drawn();
        cheat();
        blame();
        serves();
        servesAmongEquals();
        servesAtTwelve();
        pay();
        payAndTales();
        owe();
        settle();
        debt();
        year();
        count();
        heap();
        strung();
        stringsAndPartByThemselves();
        strungAmongEquals();
        strungByRatesNow();
        CHECK.close();
    }

    private static void due(String call, int got, int want) {
        CHECK.due(at + ": " + call, got, want);
    }

    private static void due(String call, boolean got, boolean want) {
        CHECK.due(at + ": " + call, got, want);
    }

    private static int of(ShellMoney x, int string, int what) {
        return Check.of(x, string, what);
    }

    private static ShellMoney fresh(String promise) {
        at = promise;
        return new ShellMoney();
    }

    /** Gives a NAMED STRING round until so many EVENTS are told. */
    private static void tellEvents(ShellMoney x, int string, int events) {
        int owner = of(x, string, 1);
        for (int k = x.count(5); k < events; k++) {
            owner = (owner + 1) % 10;
            x.give(string, owner);
        }
        due("EVENTS told", x.count(5), events);
    }

    private static void aNewObject() {
        ShellMoney x = fresh("promise 1");
        for (int what = 0; what <= 7; what++) {
            due("count(" + what + ")", x.count(what), 0);
        }
        int[] rates = {1, 2, 4, 7, 11};
        int[] bonuses = {0, 5, 10, 20, 40};
        for (int g = 0; g < 5; g++) {
            due("rate", x.rate(g), rates[g]);
            due("RATE at first", x.set(0, g, 1), rates[g]);
            due("BONUS at first", x.set(1, g, 0), bonuses[g]);
            due("FLOOD at first", x.set(2, g, 1), 50);
        }
        due("FAME at first", x.set(3, 0, 0), 25);
        due("CUSTOM at first", x.set(4, 0, 0), 1);
        due("INTEREST at first", x.set(5, 0, 0), 10);
        due("of(0, 0)", of(x, 0, 0), Check.THROWN);
        due("debt(0, 0)", x.debt(0, 0), NONE);
        due("strung()", x.strung(), 0);
        due("named(1)", x.named(1), NONE);
    }

    private static void string() {
        ShellMoney x = fresh("promise 2");
        int[][] wrong = {
            {-1, 0, 0, 1}, {10, 0, 0, 1}, {0, -1, 0, 1}, {0, 5, 0, 1}, {0, 0, -1, 1}, {0, 0, 10, 1},
            {0, 0, 0, 0}, {0, 0, 0, -1}, {0, 0, 0, 81}, {LOW, 0, 0, 1}, {0, HIGH, 0, 1},
            {0, 0, LOW, 1}, {0, 0, 0, HIGH},
        };
        for (int[] w : wrong) {
            due("wrong string", x.string(w[0], w[1], w[2], w[3]), NONE);
        }
        due("count(0)", x.count(0), 0);
        due("count(6)", x.count(6), 0);
        due("string(9, 4, 9, 80)", x.string(9, 4, 9, 80), 0);
        due("BEADS", of(x, 0, 0), 80);
        due("OWNER", of(x, 0, 1), 9);
        due("NAME", of(x, 0, 2), 0);
        due("first GRADE", x.bead(0, 0, 0), 4);
        due("last MAKER", x.bead(0, 79, 1), 9);
        for (int k = 1; k < 40; k++) {
            due("string(0, 0, 0, 1)", x.string(0, 0, 0, 1), k);
        }
        due("the 41st", x.string(0, 0, 0, 1), NONE);
        due("count(0)", x.count(0), 40);
        due("count(6)", x.count(6), 119);
    }

    private static void add() {
        ShellMoney x = fresh("promise 3");
        x.string(0, 3, 1, 10);
        int[][] wrong = {
            {1, 0, 0, 1}, {-1, 0, 0, 1}, {0, -1, 0, 1}, {0, 5, 0, 1}, {0, 0, -1, 1}, {0, 0, 10, 1},
            {0, 0, 0, 0}, {0, 0, 0, -1}, {0, 0, 0, 71}, {0, 0, 0, HIGH}, {HIGH, 0, 0, 1},
        };
        for (int[] w : wrong) {
            due("wrong add", x.add(w[0], w[1], w[2], w[3]), NONE);
        }
        due("BEADS", of(x, 0, 0), 10);
        due("add(0, 2, 5, 3)", x.add(0, 2, 5, 3), 13);
        due("bead 9", x.bead(0, 9, 0), 3);
        due("bead 10", x.bead(0, 10, 0), 2);
        due("bead 12", x.bead(0, 12, 1), 5);
        due("up to 80", x.add(0, 2, 5, 67), 80);
        due("one above 80", x.add(0, 2, 5, 1), NONE);
        x.string(0, 0, 0, 1);
        x.string(0, 0, 0, 1);
        x.join(1, 2);
        due("to a GONE one", x.add(2, 0, 0, 1), NONE);
        due("count(6)", x.count(6), 82);
    }

    private static void cut() {
        ShellMoney x = fresh("promise 4");
        x.string(7, 4, 1, 3);
        x.add(0, 1, 2, 4);
        due("cut(0, 0)", x.cut(0, 0), NONE);
        due("cut(0, 7)", x.cut(0, 7), NONE);
        due("cut(0, -1)", x.cut(0, -1), NONE);
        due("cut(1, 1)", x.cut(1, 1), NONE);
        due("cut(-1, 1)", x.cut(-1, 1), NONE);
        due("cut(0, HIGH)", x.cut(0, HIGH), NONE);
        due("cut(0, 3)", x.cut(0, 3), 1);
        due("BEADS left", of(x, 0, 0), 3);
        due("BEADS cut off", of(x, 1, 0), 4);
        due("OWNER", of(x, 1, 1), 7);
        due("least GRADE left", of(x, 0, 3), 4);
        due("GRADE cut off", x.bead(1, 0, 0), 1);
        due("MAKER cut off", x.bead(1, 3, 1), 2);
        due("at its last place", x.cut(1, 3), 2);
        due("one BEAD", x.cut(2, 1), NONE);
        due("at its first place but one", x.cut(1, 1), 3);
        due("joined again", x.join(1, 3), 3);
        due("count(6)", x.count(6), 7);
        for (int k = 4; k < 40; k++) {
            x.string(0, 0, 0, 2);
        }
        due("with 40", x.cut(4, 1), NONE);
        due("BEADS then", of(x, 4, 0), 2);
        x.join(0, 1);
        due("a GONE one", x.cut(1, 1), NONE);
    }

    private static void cutAndNames() {
        ShellMoney x = fresh("promise 4, names");
        x.string(0, 2, 0, 20);
        x.name(0, 5);
        due("equal parts", x.cut(0, 10), 1);
        due("the first keeps it", x.named(5), 0);
        due("which", x.tale(5, 1, 0), 3);
        due("how many", x.tale(5, 1, 1), 10);
        due("the first with more", x.cut(0, 6), 2);
        due("keeps it", x.named(5), 0);
        due("how many", x.tale(5, 2, 1), 6);
        due("the second with more", x.cut(0, 2), 3);
        due("has it", x.named(5), 3);
        due("how many", x.tale(5, 3, 1), 4);
        due("NAME of the first", of(x, 0, 2), 0);
        x.set(4, 0, 0);
        due("CUSTOM 0", x.cut(3, 3), 4);
        due("lost", x.named(5), NONE);
        due("which", x.tale(5, 4, 0), 5);
        due("number", x.tale(5, 4, 1), 0);
        due("no more", x.tale(5, 5, 0), NONE);
        due("EVENTS", x.count(5), 5);
    }

    private static void join() {
        ShellMoney x = fresh("promise 5");
        x.string(0, 4, 1, 40);
        x.string(0, 2, 2, 40);
        x.string(0, 0, 3, 1);
        x.string(1, 0, 3, 1);
        due("alike", x.join(0, 0), NONE);
        due("none such", x.join(0, 4), NONE);
        due("none such", x.join(4, 0), NONE);
        due("none such", x.join(-1, 0), NONE);
        due("two OWNERS", x.join(2, 3), NONE);
        due("80", x.join(0, 1), 80);
        due("more than 80", x.join(0, 2), NONE);
        due("GONE first", x.join(1, 2), NONE);
        due("GONE second", x.join(2, 1), NONE);
        due("bead 39", x.bead(0, 39, 0), 4);
        due("bead 40", x.bead(0, 40, 0), 2);
        due("bead 79", x.bead(0, 79, 1), 2);
        due("BEADS of b", of(x, 1, 0), 0);
        due("GONE", x.count(1), 1);
        due("STRINGS", x.count(0), 4);
        due("no EVENTS", x.count(5), 0);
    }

    private static void joinAndNames() {
        ShellMoney x = fresh("promise 5, names");
        for (int k = 0; k < 4; k++) {
            x.string(0, 2, 0, 5);
        }
        x.name(0, 1);
        x.name(1, 2);
        due("both named", x.join(0, 1), 10);
        due("the first's stays", x.named(1), 0);
        due("the second's is lost", x.named(2), NONE);
        due("joined", x.tale(1, 1, 0), 4);
        due("how many", x.tale(1, 1, 1), 10);
        due("lost", x.tale(2, 1, 0), 5);
        due("lost, number", x.tale(2, 1, 1), 0);
        due("EVENTS", x.count(5), 4);
        due("the second named", x.join(2, 0), 15);
        due("has moved", x.named(1), 2);
        due("the GONE one's NAME", of(x, 0, 2), 0);
        due("joined", x.tale(1, 2, 1), 15);
        due("the first named", x.join(2, 3), 20);
        due("stays", x.named(1), 2);
        due("joined", x.tale(1, 3, 1), 20);
        due("EVENTS", x.count(5), 6);
    }

    private static void turn() {
        ShellMoney x = fresh("promise 6");
        x.string(0, 4, 1, 2);
        x.add(0, 3, 2, 1);
        x.add(0, 0, 3, 2);
        due("turn(0)", x.turn(0), true);
        int[] grades = {0, 0, 3, 4, 4};
        int[] makers = {3, 3, 2, 1, 1};
        for (int i = 0; i < 5; i++) {
            due("GRADE " + i, x.bead(0, i, 0), grades[i]);
            due("MAKER " + i, x.bead(0, i, 1), makers[i]);
        }
        x.cut(0, 4);
        due("an even row", x.turn(0), true);
        due("first", x.bead(0, 0, 0), 4);
        due("last", x.bead(0, 3, 0), 0);
        due("turn(2)", x.turn(2), false);
        due("turn(-1)", x.turn(-1), false);
        x.join(0, 1);
        due("GONE", x.turn(1), false);
    }

    private static void name() {
        ShellMoney x = fresh("promise 7");
        x.string(3, 1, 0, 4);
        x.string(4, 1, 0, 4);
        due("name(0, 0)", x.name(0, 0), false);
        due("name(0, 100)", x.name(0, 100), false);
        due("name(0, -1)", x.name(0, -1), false);
        due("name(2, 1)", x.name(2, 1), false);
        due("name(-1, 1)", x.name(-1, 1), false);
        due("EVENTS", x.count(5), 0);
        due("name(0, 99)", x.name(0, 99), true);
        due("its own", x.name(0, 99), false);
        due("another's", x.name(1, 99), false);
        due("NAMED", x.tale(99, 0, 0), 1);
        due("its OWNER", x.tale(99, 0, 1), 3);
        due("in place of its own", x.name(0, 1), true);
        due("lost", x.tale(99, 1, 0), 5);
        due("NAMED", x.tale(1, 0, 0), 1);
        due("a lost one again", x.name(1, 99), true);
        due("its TALE goes on", x.tale(99, 2, 1), 4);
        due("EVENTS", x.count(5), 4);
        x.string(4, 1, 0, 4);
        x.join(1, 2);
        due("GONE", x.name(2, 50), false);
        due("NAME", of(x, 1, 2), 99);
    }

    private static void give() {
        ShellMoney x = fresh("promise 8");
        x.string(0, 1, 0, 4);
        due("its own", x.give(0, 0), false);
        due("give(0, 10)", x.give(0, 10), false);
        due("give(0, -1)", x.give(0, -1), false);
        due("give(1, 1)", x.give(1, 1), false);
        due("give(-1, 1)", x.give(-1, 1), false);
        due("give(0, 9)", x.give(0, 9), true);
        due("OWNER", of(x, 0, 1), 9);
        due("no EVENT without a NAME", x.count(5), 0);
        x.name(0, 8);
        due("give(0, 2)", x.give(0, 2), true);
        due("given", x.tale(8, 1, 0), 2);
        due("to whom", x.tale(8, 1, 1), 2);
        due("NAME", of(x, 0, 2), 8);
        x.string(2, 1, 0, 4);
        x.join(0, 1);
        due("GONE", x.give(1, 3), false);
    }

    private static void of() {
        ShellMoney x = fresh("promise 9");
        x.string(6, 3, 5, 20);
        x.add(0, 2, 7, 9);
        x.add(0, 4, 5, 2);
        x.name(0, 33);
        int[] due = {31, 6, 33, 2, 31 * 4 + 3 * 10 + 25, 3, 2};
        for (int what = 0; what < due.length; what++) {
            due("of(0, " + what + ")", of(x, 0, what), due[what]);
        }
        due("of(0, 7)", of(x, 0, 7), Check.THROWN);
        due("of(0, -1)", of(x, 0, -1), Check.THROWN);
        due("of(1, 0)", of(x, 1, 0), Check.THROWN);
        due("of(-1, 0)", of(x, -1, 0), Check.THROWN);
        due("of(HIGH, 0)", of(x, HIGH, 0), Check.THROWN);
        x.string(6, 0, 0, 1);
        x.join(1, 0);
        int[] gone = {0, 6, 0, NONE, 0, 0, 0};
        for (int what = 0; what < gone.length; what++) {
            due("GONE, of(0, " + what + ")", of(x, 0, what), gone[what]);
        }
        due("GONE, of(0, 7)", of(x, 0, 7), Check.THROWN);
        x.string(0, 4, 0, 1);
        for (int maker = 1; maker < 10; maker++) {
            x.add(2, 4, maker, 1);
        }
        due("ten MAKERS", of(x, 2, 6), 10);
        due("ten BEADS are a SPAN", of(x, 2, 5), 1);
        x.cut(2, 9);
        due("nine are none", of(x, 2, 5), 0);
    }

    private static void bead() {
        ShellMoney x = fresh("promise 10");
        x.string(0, 3, 8, 2);
        x.add(0, 1, 0, 1);
        due("bead(0, 1, 0)", x.bead(0, 1, 0), 3);
        due("bead(0, 1, 1)", x.bead(0, 1, 1), 8);
        due("bead(0, 2, 0)", x.bead(0, 2, 0), 1);
        due("bead(0, 2, 1)", x.bead(0, 2, 1), 0);
        due("bead(0, 3, 0)", x.bead(0, 3, 0), NONE);
        due("bead(0, -1, 0)", x.bead(0, -1, 0), NONE);
        due("bead(0, 80, 0)", x.bead(0, 80, 0), NONE);
        due("bead(0, HIGH, 1)", x.bead(0, HIGH, 1), NONE);
        due("bead(0, 0, 2)", x.bead(0, 0, 2), NONE);
        due("bead(0, 0, -1)", x.bead(0, 0, -1), NONE);
        due("bead(1, 0, 0)", x.bead(1, 0, 0), NONE);
        due("bead(-1, 0, 0)", x.bead(-1, 0, 0), NONE);
        x.cut(0, 2);
        due("cut off", x.bead(0, 2, 0), NONE);
    }

    private static void named() {
        ShellMoney x = fresh("promise 11");
        x.string(0, 0, 0, 1);
        x.string(0, 0, 0, 1);
        x.name(1, 4);
        due("named(4)", x.named(4), 1);
        due("named(5)", x.named(5), NONE);
        due("named(0)", x.named(0), NONE);
        due("named(100)", x.named(100), NONE);
        due("named(-1)", x.named(-1), NONE);
        x.name(1, 5);
        due("lost", x.named(4), NONE);
        due("named(5)", x.named(5), 1);
    }

    private static void tale() {
        ShellMoney x = fresh("promise 12");
        x.string(2, 0, 0, 1);
        x.string(2, 0, 0, 1);
        x.name(0, 10);
        x.year();
        x.year();
        x.name(1, 11);
        x.year();
        x.give(0, 7);
        due("EVENT 0, which", x.tale(10, 0, 0), 1);
        due("EVENT 0, number", x.tale(10, 0, 1), 2);
        due("EVENT 0, YEAR", x.tale(10, 0, 2), 0);
        due("EVENT 1, which", x.tale(10, 1, 0), 2);
        due("EVENT 1, number", x.tale(10, 1, 1), 7);
        due("EVENT 1, YEAR", x.tale(10, 1, 2), 3);
        due("another NAME's YEAR", x.tale(11, 0, 2), 2);
        due("EVENT 2", x.tale(10, 2, 0), NONE);
        due("EVENT -1", x.tale(10, -1, 0), NONE);
        due("EVENT LOW", x.tale(10, LOW, 0), NONE);
        due("what 3", x.tale(10, 0, 3), NONE);
        due("what -1", x.tale(10, 0, -1), NONE);
        due("NAME 12", x.tale(12, 0, 0), NONE);
        due("NAME 0", x.tale(0, 0, 0), NONE);
        due("NAME 100", x.tale(100, 0, 0), NONE);
    }

    private static void fullTale() {
        ShellMoney x = fresh("a TALE that is full");
        for (int k = 0; k < 4; k++) {
            x.string(0, 2, 0, 10);
        }
        x.name(0, 1);
        x.name(1, 2);
        tellEvents(x, 1, 199);
        x.give(0, of(x, 1, 1));
        due("EVENTS", x.count(5), 200);
        due("the last EVENT of NAME 2", x.tale(2, 197, 0), 2);
        due("none behind it", x.tale(2, 198, 0), NONE);
        due("the last EVENT of all", x.tale(1, 1, 1), of(x, 0, 1));
        int owner = of(x, 0, 1);
        due("name, new", x.name(2, 3), false);
        due("name, in place of its own", x.name(0, 3), false);
        due("give", x.give(0, (owner + 1) % 10), false);
        due("cut", x.cut(0, 5), NONE);
        due("join", x.join(0, 1), NONE);
        x.owe(owner, (owner + 1) % 10, 1, 0);
        due("settle", x.settle(0, 0), false);
        due("pay", x.pay(owner, (owner + 1) % 10, 1), NONE);
        due("serves all the same", x.serves(owner, 1), 75);
        due("STRINGS", x.count(0), 4);
        due("OWNER", of(x, 0, 1), owner);
        due("SPANS NOW", x.debt(0, 2), 1);
        due("without a NAME: give", x.give(2, 5), true);
        due("without a NAME: cut", x.cut(2, 5), 4);
        due("without a NAME: join", x.join(2, 4), 10);
        due("without a NAME: pay", x.pay(5, 6, 1), 49);
        due("EVENTS", x.count(5), 200);

        x = fresh("a TALE that takes one EVENT more");
        x.string(0, 2, 0, 10);
        x.string(0, 2, 0, 10);
        x.name(0, 1);
        x.name(1, 2);
        tellEvents(x, 1, 198);
        x.give(0, of(x, 1, 1));
        due("EVENTS", x.count(5), 199);
        due("join of two NAMES", x.join(0, 1), NONE);
        due("name in place of its own", x.name(0, 3), false);
        due("NAME 1", x.named(1), 0);
        due("NAME 2", x.named(2), 1);
        due("BEADS", of(x, 0, 0), 10);
        due("cut", x.cut(0, 5), 2);
        due("EVENTS", x.count(5), 200);

        x = fresh("a TALE that takes one NAME more");
        x.string(0, 2, 0, 10);
        x.string(0, 2, 0, 10);
        x.name(0, 1);
        tellEvents(x, 0, 199);
        due("name", x.name(1, 2), true);
        due("EVENTS", x.count(5), 200);
        due("cut of a NAMED one", x.cut(1, 5), NONE);
    }

    private static void set() {
        ShellMoney x = fresh("promise 13");
        int[] least = {1, 0, 1, 0, 0, 0};
        int[] most = {100, 500, 1000, 500, 1, 50};
        for (int what = 0; what < 6; what++) {
            int was = x.set(what, 2, most[what]);
            due("a number above, set(" + what + ")", x.set(what, 2, most[what] + 1), NONE);
            due("a number below, set(" + what + ")", x.set(what, 2, least[what] - 1), NONE);
            due("the most, set(" + what + ")", x.set(what, 2, least[what]), most[what]);
            due("the least, set(" + what + ")", x.set(what, 2, was), least[what]);
            boolean byGrade = what < 3;
            due("GRADE 5, set(" + what + ")", x.set(what, 5, was), byGrade ? NONE : was);
            due("GRADE -1, set(" + what + ")", x.set(what, -1, was), byGrade ? NONE : was);
        }
        due("set(6, 0, 1)", x.set(6, 0, 1), NONE);
        due("set(-1, 0, 1)", x.set(-1, 0, 1), NONE);
        x.set(0, 1, 9);
        due("other GRADES stay", x.rate(2), 4);
        due("RATE is set", x.rate(1), 9);
    }

    private static void rate() {
        ShellMoney x = fresh("promise 14");
        due("rate(5)", x.rate(5), NONE);
        due("rate(-1)", x.rate(-1), NONE);
        x.string(0, 3, 0, 49);
        due("49 BEADS", x.rate(3), 7);
        x.string(1, 3, 0, 1);
        due("50 BEADS", x.rate(3), 6);
        due("another GRADE", x.rate(4), 11);
        x.cut(0, 20);
        x.join(0, 2);
        due("cut and joined", x.rate(3), 6);
        x.add(0, 3, 0, 31);
        x.string(0, 3, 0, 18);
        due("99 BEADS", x.rate(3), 6);
        x.add(1, 3, 0, 1);
        due("100 BEADS", x.rate(3), 5);
        due("FLOOD", x.set(2, 3, 20), 50);
        due("by 20", x.rate(3), 2);
        x.set(2, 3, 1);
        due("at least 1", x.rate(3), 1);
        x.set(2, 3, 100);
        due("by 100", x.rate(3), 6);
        x.set(2, 3, 101);
        due("by 101", x.rate(3), 7);
        x.heap(2, 60);
        due("THE HEAP is in no STRING", x.rate(2), 4);
        x.string(0, 0, 0, 80);
        due("RATE 1", x.rate(0), 1);
    }

    private static void worth() {
        ShellMoney x = fresh("WORTH");
        x.string(0, 4, 0, 9);
        due("no SPAN", of(x, 0, 4), 99);
        x.add(0, 4, 0, 1);
        due("a SPAN", of(x, 0, 4), 150);
        x.add(0, 4, 0, 9);
        due("a SPAN and nine", of(x, 0, 4), 19 * 11 + 40);
        x.name(0, 1);
        due("a NAME", of(x, 0, 4), 19 * 11 + 40 + 25);
        x.set(3, 0, 500);
        due("FAME", of(x, 0, 4), 19 * 11 + 40 + 500);
        x.add(0, 3, 0, 1);
        due("the least GRADE", of(x, 0, 4), 20 * 7 + 2 * 20 + 500);
        x.set(1, 3, 3);
        x.set(0, 3, 10);
        due("BONUS, RATE", of(x, 0, 4), 20 * 10 + 2 * 3 + 500);
        x.string(1, 3, 0, 49);
        due("FLOOD", of(x, 0, 4), 20 * 9 + 2 * 3 + 500);
    }

    private static void rich() {
        ShellMoney x = fresh("promise 15");
        due("no STRINGS", x.rich(0), 0);
        due("rich(-1)", x.rich(-1), NONE);
        due("rich(10)", x.rich(10), NONE);
        x.string(0, 1, 0, 5);
        x.string(0, 2, 0, 10);
        x.string(1, 4, 0, 1);
        x.name(1, 1);
        due("rich(0)", x.rich(0), 10 + 50 + 25);
        due("rich(1)", x.rich(1), 11);
        x.join(0, 1);
        due("joined", x.rich(0), 30 + 5 + 25);
        for (int k = 0; k < 20; k++) {
            x.string(2, 0, 0, 1);
        }
        due("more than 12", x.rich(2), 20);
    }

    private static void drawn() {
        ShellMoney x = fresh("promise 16");
        x.string(0, 4, 0, 2);
        x.add(0, 1, 0, 1);
        x.add(0, 3, 0, 2);
        due("drawn(0, 0, 2)", x.drawn(0, 0, 2), 4);
        due("drawn(0, 0, 3)", x.drawn(0, 0, 3), 1);
        due("drawn(0, 2, 1)", x.drawn(0, 2, 1), 1);
        due("drawn(0, 3, 2)", x.drawn(0, 3, 2), 3);
        due("drawn(0, 0, 5)", x.drawn(0, 0, 5), 1);
        due("drawn(0, 3, 3)", x.drawn(0, 3, 3), NONE);
        due("drawn(0, 0, 0)", x.drawn(0, 0, 0), NONE);
        due("drawn(0, 5, 0)", x.drawn(0, 5, 0), NONE);
        due("drawn(0, 5, 1)", x.drawn(0, 5, 1), NONE);
        due("drawn(0, -1, 2)", x.drawn(0, -1, 2), NONE);
        due("drawn(0, 1, HIGH)", x.drawn(0, 1, HIGH), NONE);
        due("drawn(0, HIGH, HIGH)", x.drawn(0, HIGH, HIGH), NONE);
        due("drawn(0, LOW, LOW)", x.drawn(0, LOW, LOW), NONE);
        due("drawn(1, 0, 1)", x.drawn(1, 0, 1), NONE);
        due("drawn(-1, 0, 1)", x.drawn(-1, 0, 1), NONE);
        x.string(0, 0, 0, 1);
        x.join(0, 1);
        due("GONE", x.drawn(1, 0, 1), NONE);
    }

    private static void cheat() {
        ShellMoney x = fresh("promise 17");
        x.string(0, 4, 0, 3);
        x.add(0, 2, 0, 2);
        x.add(0, 0, 0, 1);
        due("cheat(0, 4)", x.cheat(0, 4), 3);
        due("cheat(0, 3)", x.cheat(0, 3), 3);
        due("cheat(0, 2)", x.cheat(0, 2), 5);
        due("cheat(0, 1)", x.cheat(0, 1), 5);
        due("cheat(0, 0)", x.cheat(0, 0), NONE);
        due("cheat(0, 5)", x.cheat(0, 5), 0);
        due("cheat(0, HIGH)", x.cheat(0, HIGH), 0);
        due("cheat(0, -1)", x.cheat(0, -1), NONE);
        due("cheat(0, LOW)", x.cheat(0, LOW), NONE);
        due("cheat(1, 4)", x.cheat(1, 4), NONE);
        due("cheat(-1, 4)", x.cheat(-1, 4), NONE);
        due("cheat(1, 8)", x.cheat(1, 8), NONE);
        due("cheat(-1, HIGH)", x.cheat(-1, HIGH), NONE);
        x.turn(0);
        due("turned", x.cheat(0, 4), 0);
        x.string(0, 4, 0, 1);
        due("none is", x.cheat(1, 4), NONE);
        due("all are below 5", x.cheat(1, 5), 0);
        x.join(1, 0);
        due("GONE", x.cheat(0, 4), NONE);
        due("GONE, above 4", x.cheat(0, 8), NONE);
    }

    private static void blame() {
        ShellMoney x = fresh("promise 18");
        due("no STRINGS", x.blame(4), NONE);
        x.string(0, 0, 0, 1);
        due("one BEAD", x.blame(1), 0);
        due("none below 0", x.blame(0), NONE);

        x = fresh("promise 18, more STRINGS");
        x.string(0, 1, 9, 5);
        x.string(1, 0, 4, 3);
        x.string(2, 3, 2, 8);
        due("blame(0)", x.blame(0), NONE);
        due("blame(1)", x.blame(1), 4);
        due("blame(2)", x.blame(2), 9);
        due("blame(3)", x.blame(3), 9);
        due("blame(4)", x.blame(4), 2);
        due("blame(5)", x.blame(5), NONE);
        due("blame(-1)", x.blame(-1), NONE);
        x.add(1, 1, 4, 2);
        due("of equal ones the least", x.blame(2), 4);
        x.string(3, 4, 0, 80);
        due("better ones are not below", x.blame(4), 2);
        x.string(3, 0, 0, 4);
        x.string(4, 0, 0, 5);
        due("over all STRINGS", x.blame(4), 0);
    }

    private static void serves() {
        ShellMoney x = fresh("promise 19");
        due("no STRINGS", x.serves(0, 1), -2);
        due("OWNER -1", x.serves(-1, 1), NONE);
        due("OWNER 10", x.serves(10, 1), NONE);
        due("sum 0", x.serves(0, 0), NONE);
        due("sum -1", x.serves(0, -1), NONE);
        due("sum 1000001", x.serves(0, 1000001), NONE);
        due("sum 1000000", x.serves(0, 1000000), -2);
        x.set(1, 1, 0);
        x.string(0, 1, 0, 10);
        x.string(1, 1, 0, 1);
        x.string(0, 1, 0, 3);
        x.string(0, 1, 0, 8);
        due("sum 1", x.serves(0, 1), 6);
        due("sum 6", x.serves(0, 6), 6);
        due("sum 7", x.serves(0, 7), 16);
        due("sum 17", x.serves(0, 17), 20);
        due("sum 21", x.serves(0, 21), 22);
        due("sum 23", x.serves(0, 23), 26);
        due("sum 27", x.serves(0, 27), 36);
        due("sum 42", x.serves(0, 42), 42);
        due("sum 43", x.serves(0, 43), -2);
        due("nothing changes", of(x, 0, 1), 0);
        x.name(2, 1);
        due("FAME counts", x.serves(0, 1), 16);
    }

    private static void servesAmongEquals() {
        ShellMoney x = fresh("PAYMENT among equal ones");
        x.set(1, 0, 0);
        int[] beads = {2, 3, 5, 4, 1, 5};
        for (int n : beads) {
            x.string(0, 0, 0, n);
        }
        due("pay 5: one STRING, the least bit", x.pay(0, 1, 5), 0);
        due("string 2 is given", of(x, 2, 1), 1);
        due("string 5 stays", of(x, 5, 1), 0);
        due("pay 6: of two STRINGS the least bits", x.pay(0, 1, 6), 0);
        due("string 0 is given", of(x, 0, 1), 1);
        due("string 3 is given", of(x, 3, 1), 1);
        due("string 1 stays", of(x, 1, 1), 0);
        due("string 4 stays", of(x, 4, 1), 0);
        due("string 5 stays", of(x, 5, 1), 0);

        x = fresh("PAYMENT, bits over STRINGS that are not GONE");
        x.set(1, 0, 0);
        x.string(0, 0, 0, 1);
        x.string(0, 0, 0, 1);
        x.string(3, 0, 0, 9);
        x.join(0, 1);
        x.string(0, 0, 0, 1);
        x.string(0, 0, 0, 2);
        due("pay 2", x.pay(0, 1, 2), 0);
        due("string 0 is given", of(x, 0, 1), 1);
        due("string 4 stays", of(x, 4, 1), 0);
        due("the GONE one stays", of(x, 1, 1), 0);
    }

    private static void servesAtTwelve() {
        ShellMoney x = fresh("PAYMENT with 12 STRINGS");
        for (int k = 0; k < 12; k++) {
            x.string(0, 0, 0, 1 + k % 3);
        }
        due("all", x.serves(0, 24), 24);
        due("less", x.serves(0, 25), -2);
        x.string(0, 0, 0, 1);
        due("13", x.serves(0, 1), NONE);
        due("13, pay", x.pay(0, 1, 1), NONE);
        due("13, less than the sum", x.serves(0, 1000), NONE);
        x.join(0, 12);
        due("12 and a GONE one", x.serves(0, 25), 25);
    }

    private static void pay() {
        ShellMoney x = fresh("promise 20");
        x.string(0, 0, 0, 5);
        x.string(0, 0, 0, 9);
        due("to itself", x.pay(0, 0, 1), NONE);
        due("to -1", x.pay(0, -1, 1), NONE);
        due("to 10", x.pay(0, 10, 1), NONE);
        due("OWNER 10", x.pay(10, 1, 1), NONE);
        due("OWNER -1", x.pay(-1, 1, 1), NONE);
        due("sum 0", x.pay(0, 1, 0), NONE);
        due("sum 1000001", x.pay(0, 1, 1000001), NONE);
        due("less", x.pay(0, 1, 15), -2);
        due("nothing has changed", x.rich(0), 14);
        due("pay 6", x.pay(0, 1, 6), 3);
        due("given", of(x, 1, 1), 1);
        due("not given", of(x, 0, 1), 0);
        due("pay 5", x.pay(0, 1, 5), 0);
        due("rich(1)", x.rich(1), 14);
        due("no EVENTS", x.count(5), 0);
    }

    private static void payAndTales() {
        ShellMoney x = fresh("promise 20, TALES");
        x.string(0, 0, 0, 5);
        x.string(0, 0, 0, 9);
        x.string(0, 0, 0, 40);
        x.name(0, 1);
        x.name(1, 2);
        x.year();
        due("pay", x.pay(0, 4, 60), 4);
        due("given", x.tale(1, 1, 0), 2);
        due("to whom", x.tale(1, 1, 1), 4);
        due("YEAR", x.tale(1, 1, 2), 1);
        due("given", x.tale(2, 1, 0), 2);
        due("not given", of(x, 2, 1), 0);
        tellEvents(x, 0, 198);
        x.give(1, of(x, 0, 1));
        int owner = of(x, 0, 1);
        int to = (owner + 1) % 10;
        due("room for one EVENT", x.count(5), 199);
        due("two are too many", x.pay(owner, to, 60), NONE);
        due("nothing has changed", x.rich(owner), 64);
        due("EVENTS", x.count(5), 199);
        due("one is not", x.pay(owner, to, 31), 3);
        due("string 1 is given", of(x, 1, 1), to);
        due("EVENTS", x.count(5), 200);
        due("one is too many then", x.pay(owner, to, 1), NONE);
    }

    private static void owe() {
        ShellMoney x = fresh("promise 21");
        int[][] wrong = {
            {-1, 1, 1, 0}, {10, 1, 1, 0}, {0, -1, 1, 0}, {0, 10, 1, 0}, {0, 0, 1, 0}, {0, 1, 0, 0},
            {0, 1, 100, 0}, {0, 1, -1, 0}, {0, 1, 1, -1}, {0, 1, 1, 5},
        };
        for (int[] w : wrong) {
            due("wrong owe", x.owe(w[0], w[1], w[2], w[3]), NONE);
        }
        due("count(2)", x.count(2), 0);
        due("owe(0, 9, 99, 4)", x.owe(0, 9, 99, 4), 0);
        for (int k = 1; k < 60; k++) {
            due("owe(9, 0, 1, 0)", x.owe(9, 0, 1, 0), k);
        }
        due("the 61st", x.owe(9, 0, 1, 0), NONE);
        due("count(2)", x.count(2), 60);
    }

    private static void settle() {
        ShellMoney x = fresh("promise 22");
        x.owe(3, 4, 2, 2);
        x.string(3, 2, 0, 19);
        x.string(5, 2, 0, 20);
        x.string(3, 1, 0, 20);
        x.name(0, 6);
        due("too few SPANS", x.settle(0, 0), false);
        due("not by who owes", x.settle(0, 1), false);
        due("a GRADE below", x.settle(0, 2), false);
        due("no such STRING", x.settle(0, 3), false);
        due("no such STRING", x.settle(0, -1), false);
        due("no such DEBT", x.settle(1, 0), false);
        due("no such DEBT", x.settle(-1, 0), false);
        x.add(0, 4, 0, 1);
        x.year();
        x.year();
        due("settle(0, 0)", x.settle(0, 0), true);
        due("OWNER", of(x, 0, 1), 4);
        due("given", x.tale(6, 1, 0), 2);
        due("to whom", x.tale(6, 1, 1), 4);
        due("PAID", x.count(3), 1);
        due("the YEAR", x.debt(0, 4), 2);
        due("PAID already", x.settle(0, 0), false);
        x.string(3, 4, 0, 40);
        due("PAID already", x.settle(0, 3), false);
        x.owe(3, 4, 1, 2);
        due("more SPANS, a better GRADE", x.settle(1, 3), true);
        x.owe(4, 3, 1, 0);
        x.join(0, 3);
        due("GONE", x.settle(2, 3), false);
        due("not yet", x.debt(2, 4), NONE);
    }

    private static void debt() {
        ShellMoney x = fresh("promise 23");
        x.owe(8, 2, 30, 3);
        int[] due = {8, 2, 30, 3, NONE};
        for (int what = 0; what < due.length; what++) {
            due("debt(0, " + what + ")", x.debt(0, what), due[what]);
        }
        due("debt(0, 5)", x.debt(0, 5), NONE);
        due("debt(0, -1)", x.debt(0, -1), NONE);
        due("debt(1, 0)", x.debt(1, 0), NONE);
        due("debt(-1, 0)", x.debt(-1, 0), NONE);
        x.owe(1, 2, 1, 0);
        x.string(1, 0, 0, 10);
        x.settle(1, 0);
        int[] paid = {1, 2, 0, 0, 0};
        for (int what = 0; what < paid.length; what++) {
            due("PAID, debt(1, " + what + ")", x.debt(1, what), paid[what]);
        }
        x.year();
        due("PAID, debt(1, 2)", x.debt(1, 2), 0);
        due("PAID, debt(1, 4)", x.debt(1, 4), 0);
    }

    private static void year() {
        ShellMoney x = fresh("promise 24");
        x.owe(0, 1, 99, 0);
        x.owe(0, 1, 9, 0);
        x.owe(0, 1, 10, 0);
        int[] spans = {108, 118, 129, 141};
        for (int k = 0; k < spans.length; k++) {
            due("year()", x.year(), k + 1);
            due("SPANS NOW", x.debt(0, 2), spans[k]);
            due("nine stay nine", x.debt(1, 2), 9);
        }
        due("ten grow by one", x.debt(2, 2), 14);
        x.set(5, 0, 0);
        x.year();
        due("without INTEREST", x.debt(0, 2), 141);
        x.set(5, 0, 50);
        for (int k = 6; k <= 15; k++) {
            x.year();
        }
        due("SPANS NOW", x.debt(0, 2), 8092);
        x.year();
        due("never above", x.debt(0, 2), 10000);
        for (int k = 17; k <= 100; k++) {
            due("year()", x.year(), k);
        }
        due("never above", x.debt(0, 2), 10000);
        x.owe(0, 1, 50, 0);
        due("it is 100", x.year(), NONE);
        due("nothing has changed", x.count(4), 100);
        due("nothing has grown", x.debt(3, 2), 50);
    }

    private static void count() {
        ShellMoney x = fresh("promise 25");
        x.string(0, 1, 0, 5);
        x.string(0, 1, 0, 6);
        x.string(0, 1, 0, 10);
        x.add(2, 1, 0, 2);
        x.join(0, 1);
        x.owe(0, 1, 1, 0);
        x.owe(0, 1, 1, 0);
        x.owe(0, 1, 1, 0);
        x.settle(1, 2);
        for (int k = 0; k < 4; k++) {
            x.year();
        }
        for (int k = 1; k <= 3; k++) {
            x.name(0, k);
        }
        x.heap(0, 7);
        x.heap(3, 2);
        int[] due = {3, 1, 3, 1, 4, 5, 23, 9};
        for (int what = 0; what < due.length; what++) {
            due("count(" + what + ")", x.count(what), due[what]);
        }
        x.string(0, 1, 0, 1);
        x.join(3, 0);
        due("the first one GONE too", x.count(1), 2);
        due("count(8)", x.count(8), NONE);
        due("count(-1)", x.count(-1), NONE);
    }

    private static void heap() {
        ShellMoney x = fresh("promise 26");
        due("heap(-1, 1)", x.heap(-1, 1), false);
        due("heap(5, 1)", x.heap(5, 1), false);
        due("heap(0, -1)", x.heap(0, -1), false);
        due("heap(0, 61)", x.heap(0, 61), false);
        due("heap(0, HIGH)", x.heap(0, HIGH), false);
        due("heap(0, 60)", x.heap(0, 60), true);
        due("heap(1, 1)", x.heap(1, 1), false);
        due("heap(1, 0)", x.heap(1, 0), true);
        due("heap(0, 60) again", x.heap(0, 60), true);
        due("heap(0, 20)", x.heap(0, 20), true);
        due("heap(4, 41)", x.heap(4, 41), false);
        due("heap(4, 40)", x.heap(4, 40), true);
        due("count(7)", x.count(7), 60);
        due("heap(4, HIGH)", x.heap(4, HIGH), false);
        due("count(7)", x.count(7), 60);
    }

    private static void parts(ShellMoney x, int worth, int... beads) {
        due("strung()", x.strung(), worth);
        due("strings()", x.strings(), beads.length);
        for (int i = 0; i < beads.length; i++) {
            due("part(" + i + ")", x.part(i), beads[i]);
        }
        due("part behind the last", x.part(beads.length), NONE);
        due("part(-1)", x.part(-1), NONE);
        due("part(LOW)", x.part(LOW), NONE);
        due("part(HIGH)", x.part(HIGH), NONE);
    }

    private static void strung() {
        ShellMoney x = fresh("promises 27, 28, 29");
        parts(x, 0);
        x.heap(2, 1);
        parts(x, 4, 1);
        x.heap(4, 3);
        parts(x, 37, 3, 1);
        x.heap(0, 9);
        parts(x, 46, 3, 1, 9);
        x.heap(2, 0);
        x.heap(4, 0);
        x.heap(0, 60);
        parts(x, 60, 60);
        x.heap(0, 0);
        x.heap(4, 9);
        x.heap(3, 1);
        due("nine better ones and one", x.strung(), 106);
        parts(x, 106, 9, 1);
        x.set(1, 3, 37);
        parts(x, 107, 10);
    }

    private static void stringsAndPartByThemselves() {
        ShellMoney x = fresh("promises 28, 29, without strung()");
        x.heap(4, 3);
        x.heap(0, 2);
        due("strings()", x.strings(), 2);
        x.heap(2, 4);
        due("part(1)", x.part(1), 4);
        x.heap(0, 0);
        due("part(2)", x.part(2), NONE);
        due("strings()", x.strings(), 2);
    }

    private static void strungAmongEquals() {
        ShellMoney x = fresh("STRUNG among equal ones");
        x.set(0, 4, 2);
        x.set(0, 3, 2);
        x.set(0, 2, 2);
        x.set(1, 4, 0);
        x.set(1, 3, 0);
        x.set(1, 2, 0);
        x.heap(4, 5);
        x.heap(3, 5);
        x.heap(2, 5);
        parts(x, 30, 15);
        x.set(1, 4, 6);
        x.set(1, 3, 6);
        x.heap(4, 15);
        x.heap(3, 6);
        x.heap(2, 0);
        parts(x, 54, 21);
        x.set(0, 4, 3);
        x.set(1, 4, 10);
        parts(x, 69, 11, 10);
        x.heap(4, 12);
        x.heap(3, 9);
        x.set(0, 4, 2);
        x.set(1, 4, 20);
        parts(x, 68, 11, 10);
    }

    private static void strungByRatesNow() {
        ShellMoney x = fresh("STRUNG by RATES NOW");
        x.heap(4, 10);
        parts(x, 150, 10);
        x.string(0, 4, 0, 50);
        parts(x, 140, 10);
        x.set(2, 4, 1);
        parts(x, 50, 10);
        x.set(1, 4, 0);
        x.heap(3, 1);
        parts(x, 97, 11);
    }
}
