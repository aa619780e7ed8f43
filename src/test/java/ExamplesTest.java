import java.io.IOException;
import java.nio.file.Files;
import java.nio.file.Path;

/** The three examples of the document, call by call. */
public final class ExamplesTest {
    private static final String FIRST = "1. Crossing blocks, chains and intervals of four points: puts(0, 0, 2) = 1;"
        + " puts(1, 1, 3) = 1; joins(2, 0, 1) = 3; of(2, 3) = 4; meets(3, 0, 1) = 0; complements(4, 0) = 2; row(4, 1) = 0;"
        + " turns(5, 0) = 11; below(0, 2) = 1; chains(3, 2) = 16; signed(3, 2) = -5; between(0, 2) = 4; mark(3, 0) = 0;"
        + " covers(0, 0) = 1; evens() = 6; count(1) = 14.";
    private static final String SECOND = "2. Moments and cumulants, and chains with given labels: number(1, 2) = 100;"
        + " number(2, 5) = 100; as(0, 1, 2) = 1; as(1, 0, 2) = 9; as(2, 0, 4) = 211; as(1, 0, 4) = 186; points(3) = 4;"
        + " marked(1) = 1; marked(11) = 0; marked(80) = -2; evens() = -3; takes(0, 4) = 0; of(0, 1) = 0; back() = 3;"
        + " as(3, 0, 1) = -1000000000000000; told(0) = 2.";
    private static final String THIRD = "3. Orders of a text: type(120) = 1; type(49) = 2; type(32) = 3; type(45) = 4;"
        + " type(53) = 5; type(59) = 6; does() = 1; number(1, 0) = 95; clear() = 6; type(110) = 1; type(57) = 2;"
        + " type(59) = 3; does() = -1000; told(0) = 0; type(45) = 4; does() = -13.";

    private ExamplesTest() {
    }

    public static void main(String[] args) throws IOException {
        first();
        second();
        third();
        allOfThem();
        Check.end();
    }

    @Sentence(words = FIRST)
    @Broken(in = "int unite(", was = "return putMade(s)", is = "return putMade(s) > 1 ? 1 : 1 - putMade(s)")
    @Broken(in = "int putJoin(", was = "lattice.join(", is = "lattice.meet(")
    @Broken(in = "int putMeet(", was = "lattice.meet(", is = "lattice.join(")
    @Broken(in = "int property(", was = "part.largest()", is = "part.singles()")
    @Broken(in = "int putComplement(", was = "lattice.complement(", is = "lattice.turn(")
    @Broken(in = "public int row(", was = "low[x]", is = "low[x + 1]")
    @Broken(in = "int putTurned(", was = "lattice.turn(", is = "lattice.complement(")
    @Broken(in = "public int below(", was = "? 1 : 0", is = "? 0 : 1")
    @Broken(in = "public int chains(", was = "chainsOfProduct()", is = "sizeOfProduct()")
    @Broken(in = "public int signed(", was = "moebiusOfProduct()", is = "sizeOfProduct()")
    @Broken(in = "public int between(", was = "sizeOfProduct()", is = "chainsOfProduct()")
    @Broken(in = "int labelTo(", was = "return label", is = "return second")
    @Broken(in = "int coverOf(", was = "seen == i", is = "seen == i + 1")
    @Broken(in = "public int evens()", was = "choose(n, n / 2)", is = "CATALAN[n]")
    @Broken(in = "int amount(", was = "CATALAN[now.points]", is = "CATALAN[now.points] + 1")
    static void first() {
        UncrossedParts x = new UncrossedParts();
        Check.due("1: puts(0, 0, 2)", x.puts(0, 0, 2), 1);
        Check.due("1: puts(1, 1, 3)", x.puts(1, 1, 3), 1);
        Check.due("1: joins(2, 0, 1)", x.joins(2, 0, 1), 3);
        Check.due("1: of(2, 3)", x.of(2, 3), 4);
        Check.due("1: meets(3, 0, 1)", x.meets(3, 0, 1), 0);
        Check.due("1: complements(4, 0)", x.complements(4, 0), 2);
        Check.due("1: row(4, 1)", x.row(4, 1), 0);
        Check.due("1: turns(5, 0)", x.turns(5, 0), 11);
        Check.due("1: below(0, 2)", x.below(0, 2), 1);
        Check.due("1: chains(3, 2)", x.chains(3, 2), 16);
        Check.due("1: signed(3, 2)", x.signed(3, 2), -5);
        Check.due("1: between(0, 2)", x.between(0, 2), 4);
        Check.due("1: mark(3, 0)", x.mark(3, 0), 0);
        Check.due("1: covers(0, 0)", x.covers(0, 0), 1);
        Check.due("1: evens()", x.evens(), 6);
        Check.due("1: count(1)", x.count(1), 14);
    }

    @Sentence(words = SECOND)
    @Broken(in = "int changeNumber(", was = "had + 100", is = "had")
    @Broken(in = "void convert(", was = "moments[n] - remainder(to", is = "moments[n] + remainder(to")
    @Broken(in = "long remainder(", was = ": besides(n, size)", is = ": powers[size][n - size]")
    @Broken(in = "void raise(", was = "powers[s][r] = sum", is = "powers[s][r] = s > 1 ? 0 : sum")
    @Broken(in = "int changePoints(", was = "return had", is = "return k")
    @Broken(in = "public int marked(", was = "? 1 : 0", is = "? 0 : 1")
    @Broken(in = "boolean isLabels(", was = "rest % 10 > MOST_LABEL", is = "rest % 10 > 8")
    @Broken(in = "public int evens()", was = "no()", is = "bad()")
    @Broken(in = "int putPlace(", was = "lattice.takePlace(made, now.points, k)",
        is = "lattice.takePlace(made, now.points, 0)")
    @Broken(in = "int property(", was = "return part.rank()", is = "return part.singles()")
    @Broken(in = "public int back()", was = "return past.held", is = "return past.held + 1")
    @Broken(in = "public long as(", was = "return BAD_LONG", is = "return BAD")
    @Broken(in = "public long as(", was = "bads++;", is = "")
    static void second() {
        UncrossedParts x = new UncrossedParts();
        Check.due("2: number(1, 2)", x.number(1, 2), 100);
        Check.due("2: number(2, 5)", x.number(2, 5), 100);
        Check.due("2: as(0, 1, 2)", x.as(0, 1, 2), 1);
        Check.due("2: as(1, 0, 2)", x.as(1, 0, 2), 9);
        Check.due("2: as(2, 0, 4)", x.as(2, 0, 4), 211);
        Check.due("2: as(1, 0, 4)", x.as(1, 0, 4), 186);
        Check.due("2: points(3)", x.points(3), 4);
        Check.due("2: marked(1)", x.marked(1), 1);
        Check.due("2: marked(11)", x.marked(11), 0);
        Check.due("2: marked(80)", x.marked(80), -2);
        Check.due("2: evens()", x.evens(), -3);
        Check.due("2: takes(0, 4)", x.takes(0, 4), 0);
        Check.due("2: of(0, 1)", x.of(0, 1), 0);
        Check.due("2: back()", x.back(), 3);
        Check.due("2: as(3, 0, 1)", x.as(3, 0, 1), -1000000000000000L);
        Check.due("2: told(0)", x.told(0), 2);
    }

    @Sentence(words = THIRD)
    @Broken(in = "public int type(", was = "return orders.length", is = "return c")
    @Broken(in = "public int does()", was = "return orders.found", is = "return 0")
    @Broken(in = "boolean readsNumber(", was = "isNegative ? -value", is = "isNegative ? value")
    @Broken(in = "boolean readsNumber(", was = "skipBlanks();", is = "")
    @Broken(in = "public int clear()", was = "return had", is = "return orders.length")
    @Broken(in = "public int clear()", was = "orders.length = 0;", is = "")
    @Broken(in = "public int does()", was = "return -1000 - i", is = "return -1001 - i")
    @Broken(in = "public int does()", was = "return -1000 - i", is = "bads++; return -1000 - i")
    @Broken(in = "public int does()", was = "return -10 - fault", is = "return -9 - fault")
    static void third() {
        UncrossedParts x = new UncrossedParts();
        Check.due("3: type(120)", x.type(120), 1);
        Check.due("3: type(49)", x.type(49), 2);
        Check.due("3: type(32)", x.type(32), 3);
        Check.due("3: type(45)", x.type(45), 4);
        Check.due("3: type(53)", x.type(53), 5);
        Check.due("3: type(59)", x.type(59), 6);
        Check.due("3: does()", x.does(), 1);
        Check.due("3: number(1, 0)", x.number(1, 0), 95);
        Check.due("3: clear()", x.clear(), 6);
        Check.due("3: type(110)", x.type(110), 1);
        Check.due("3: type(57)", x.type(57), 2);
        Check.due("3: type(59)", x.type(59), 3);
        Check.due("3: does()", x.does(), -1000);
        Check.due("3: told(0)", x.told(0), 0);
        Check.due("3: type(45)", x.type(45), 4);
        Check.due("3: does()", x.does(), -13);
    }

    /** What the document tells is read from it here, so that no call of an example is left out above. */
    @Sentence(words = "Examples: Each of them begins with a new object; the results are given behind the calls.")
    @Broken(in = "public UncrossedParts()", was = "bads = 0", is = "bads = 1")
    @Broken(in = " Part() {", was = "split(FIRST_POINTS);", is = "split(FIRST_POINTS); low[3] = 2;")
    @Broken(in = " Orders() {", was = "length = 0", is = "length = 1")
    static void allOfThem() throws IOException {
        String document = Files.readString(Path.of("../shared/DOC.md")).replaceAll("\\s+", " ");
        int from = document.indexOf("Examples: ");
        int to = document.indexOf("The constructor and the methods follow");
        Check.holds("the document has examples", from >= 0 && to > from);
        String[] examples = document.substring(from, to).split("(?= \\d\\. [A-Z])");
        Check.due("what is said of them, and the examples", examples.length, 4);
        String[] due = {"", FIRST, SECOND, THIRD};
        for (int i = 1; i < examples.length && i < due.length; i++) {
            Check.holds("example " + i + " is the one above", examples[i].trim().equals(due[i]));
            Check.due("calls of example " + i, Said.calls(examples[i]).size(), 16);
            Said.made(examples[i]);
        }
    }
}
