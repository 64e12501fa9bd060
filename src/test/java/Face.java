import java.util.Arrays;
import java.util.Set;
import java.util.stream.Collectors;

/** The calls of ShellMoney by their names, so that a test can hold a call as a row of text and numbers. */
final class Face {
    private static final Set<String> YES_OR_NO = Set.of("turn", "name", "give", "settle", "heap");

    private Face() {
    }

    /** The answer of a call; a boolean counts 1 or 0, a NoSuchElementException of of(..) is Check.THROWN. */
    static int call(ShellMoney x, String name, int... a) {
        switch (name) {
            case "string": return x.string(a[0], a[1], a[2], a[3]);
            case "add": return x.add(a[0], a[1], a[2], a[3]);
            case "cut": return x.cut(a[0], a[1]);
            case "join": return x.join(a[0], a[1]);
            case "turn": return x.turn(a[0]) ? 1 : 0;
            case "name": return x.name(a[0], a[1]) ? 1 : 0;
            case "give": return x.give(a[0], a[1]) ? 1 : 0;
            case "of": return Check.of(x, a[0], a[1]);
            case "bead": return x.bead(a[0], a[1], a[2]);
            case "named": return x.named(a[0]);
            case "tale": return x.tale(a[0], a[1], a[2]);
            case "set": return x.set(a[0], a[1], a[2]);
            case "rate": return x.rate(a[0]);
            case "rich": return x.rich(a[0]);
            case "drawn": return x.drawn(a[0], a[1], a[2]);
            case "cheat": return x.cheat(a[0], a[1]);
            case "blame": return x.blame(a[0]);
            case "serves": return x.serves(a[0], a[1]);
            case "pay": return x.pay(a[0], a[1], a[2]);
            case "owe": return x.owe(a[0], a[1], a[2], a[3]);
            case "settle": return x.settle(a[0], a[1]) ? 1 : 0;
            case "debt": return x.debt(a[0], a[1]);
            case "year": return x.year();
            case "count": return x.count(a[0]);
            case "heap": return x.heap(a[0], a[1]) ? 1 : 0;
            case "strung": return x.strung();
            case "strings": return x.strings();
            case "part": return x.part(a[0]);
            default: throw new IllegalArgumentException(name);
        }
    }

    /** What a call answers if it is refused: false counts 0, the others have NONE. */
    static int refusal(String name) {
        return YES_OR_NO.contains(name) ? 0 : ShellMoney.NONE;
    }

    static String text(String name, int... a) {
        return name + Arrays.stream(a).mapToObj(String::valueOf).collect(Collectors.joining(", ", "(", ")"));
    }
}
