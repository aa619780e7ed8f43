/** The three examples of the document, call by call. */
public final class ExamplesTest {
    private ExamplesTest() {
    }

    public static void main(String[] args) {
        first();
        second();
        third();
        Check.end();
    }

    private static void first() {
        UncrossedParts x = new UncrossedParts();
        Check.due("1: puts(0, 0, 2)", x.puts(0, 0, 2), 1);
        Check.due("1: puts(1, 1, 3)", x.puts(1, 1, 3), 1);
        Check.due("1: joins(2, 0, 1)", x.joins(2, 0, 1), 3);
        Check.due("1: of(2, 3)", x.of(2, 3), 4);
        Check.due("1: meets(3, 0, 1)", x.meets(3, 0, 1), 0);
        Check.due("1: complements(4, 0)", x.complements(4, 0), 2);
        Check.due("1: row(4, 1)", x.row(4, 1), 0);
        Check.due("1: turns(5, 0)", x.turns(5, 0), 11);
        Check.due("1: below(0, 2)", x.below(0, 2), 1);
        Check.due("1: chains(3, 2)", x.chains(3, 2), 16);
        Check.due("1: signed(3, 2)", x.signed(3, 2), -5);
        Check.due("1: between(0, 2)", x.between(0, 2), 4);
        Check.due("1: mark(3, 0)", x.mark(3, 0), 0);
        Check.due("1: covers(0, 0)", x.covers(0, 0), 1);
        Check.due("1: evens()", x.evens(), 6);
        Check.due("1: count(1)", x.count(1), 14);
    }

    private static void second() {
        UncrossedParts x = new UncrossedParts();
        Check.due("2: number(1, 2)", x.number(1, 2), 100);
        Check.due("2: number(2, 5)", x.number(2, 5), 100);
        Check.due("2: as(0, 1, 2)", x.as(0, 1, 2), 1);
        Check.due("2: as(1, 0, 2)", x.as(1, 0, 2), 9);
        Check.due("2: as(2, 0, 4)", x.as(2, 0, 4), 211);
        Check.due("2: as(1, 0, 4)", x.as(1, 0, 4), 186);
        Check.due("2: points(3)", x.points(3), 4);
        Check.due("2: marked(1)", x.marked(1), 1);
        Check.due("2: marked(11)", x.marked(11), 0);
        Check.due("2: marked(80)", x.marked(80), -2);
        Check.due("2: evens()", x.evens(), -3);
        Check.due("2: takes(0, 4)", x.takes(0, 4), 0);
        Check.due("2: of(0, 1)", x.of(0, 1), 0);
        Check.due("2: back()", x.back(), 3);
        Check.due("2: as(3, 0, 1)", x.as(3, 0, 1), -1000000000000000L);
        Check.due("2: told(0)", x.told(0), 2);
    }

    private static void third() {
        UncrossedParts x = new UncrossedParts();
        Check.due("3: type(120)", x.type(120), 1);
        Check.due("3: type(49)", x.type(49), 2);
        Check.due("3: type(32)", x.type(32), 3);
        Check.due("3: type(45)", x.type(45), 4);
        Check.due("3: type(53)", x.type(53), 5);
        Check.due("3: type(59)", x.type(59), 6);
        Check.due("3: does()", x.does(), 1);
        Check.due("3: number(1, 0)", x.number(1, 0), 95);
        Check.due("3: clear()", x.clear(), 6);
        Check.due("3: type(110)", x.type(110), 1);
        Check.due("3: type(57)", x.type(57), 2);
        Check.due("3: type(59)", x.type(59), 3);
        Check.due("3: does()", x.does(), -1000);
        Check.due("3: told(0)", x.told(0), 0);
        Check.due("3: type(45)", x.type(45), 4);
        Check.due("3: does()", x.does(), -13);
    }
}
