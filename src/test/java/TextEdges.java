/** The boundary cases of promises 22 to 24, and of what is said of the text. */
final class TextEdges {
    private TextEdges() {
    }

    /** What does() answers to the text on an object of five points, where all numbers of the tests are in range. */
    private static int answer(String text) {
        return Edges.done(Edges.at(5), text);
    }

    private static void fault(String text, int place) {
        Check.due("the fault of '" + text + "'", answer(text), -10 - place);
    }

    private static void orders(String text, int count) {
        Check.due("does() of '" + text + "'", answer(text), count);
    }

    private static void bad(String text, int index) {
        Check.due("does() of '" + text + "'", answer(text), -1000 - index);
    }

    private static UncrossedParts typed(String part, int length) {
        UncrossedParts x = new UncrossedParts();
        for (int i = 0; i < length; i++) {
            x.type(part.charAt(i % part.length()));
        }
        return x;
    }

    /** The order does what the call does, and is undone like it. */
    private static void likeCall(String order, Edges.Call c) {
        UncrossedParts x = Edges.full(5);
        UncrossedParts y = Edges.full(5);
        Check.due("does() of '" + order + "'", Edges.done(x, order), 1);
        Check.holds(order + " as a call", c.on(y) >= 0);
        y.clear();
        Edges.type(y, order);
        Edges.same(order, x, y, 0);
    }

    @Sentence(words = "The text has at most 120 bytes.")
    @Broken(in = "int MOST_TEXT", was = "120", is = "119")
    @Broken(in = "int MOST_TEXT", was = "120", is = "121")
    @Broken(in = "public int type(", was = "orders.length >= MOST_TEXT", is = "orders.length > MOST_TEXT")
    static void mostBytes() {
        UncrossedParts x = typed(" ", 119);
        Check.due("the 120th byte", x.type('~'), 120);
        Check.due("the 121st byte", x.type('~'), -4);
        Check.due("told(3)", x.told(3), 120);
        Check.due("the 120th byte is read", x.does(), -129);
        Check.due("the text before it", typed(" ", 120).does(), -130);
    }

    @Sentence(words = "It consists of one or more orders, each followed by a semicolon")
    @Broken(in = "int fault()", was = "found > 0 ? NONE", is = "found > 1 ? NONE")
    @Broken(in = "int fault()", was = "found > 0 ? NONE : length", is = "NONE")
    @Broken(in = "boolean readsOrder()", was = "present() != ';'", is = "present() != ';' && present() != NONE")
    @Broken(in = "int MOST_ORDERS", was = "MOST_TEXT / 3", is = "MOST_TEXT / 3 - 1")
    static void oneOrMore() {
        orders("n1;", 1);
        orders("n1;n2;", 2);
        fault("n1", 2);
        fault("n1;n2", 5);
        fault("", 0);
        fault(" ", 1);
        fault(";", 0);
        fault("n1;;", 3);
        fault("n1; ;", 4);
        fault("n1 n2;", 3);
        fault("n1,n2;", 2);
        Check.due("forty orders", typed("n8;", 120).does(), 40);
        Check.due("the fortieth without its semicolon", typed("n8;", 119).does(), -129);
    }

    @Sentence(words = "n k (as points())")
    @Broken(in = "int argumentsOf(", was = "case 'n':", is = "case 'N':")
    @Broken(in = "int carryOut(", was = "changePoints(v[0])", is = "changePoints(v[0] > 7 ? 7 : v[0])")
    static void orderOfPoints() {
        likeCall("n1;", x -> x.points(1));
        likeCall("n5;", x -> x.points(5));
        likeCall("n8;", x -> x.points(8));
        bad("n0;", 0);
        bad("n9;", 0);
        bad("n9999;", 0);
        fault("n;", 1);
        fault("n 1 1;", 4);
        fault("n-1;", 1);
        fault("N1;", 0);
    }

    @Sentence(words = "p s x y (as puts())")
    @Broken(in = "int carryOut(", was = "unite(v[0], v[1], v[2])", is = "unite(v[0], v[1], v[1])")
    @Broken(in = "int carryOut(", was = "unite(v[0], v[1], v[2])", is = "unite(v[1], v[0], v[2])")
    @Broken(in = "int argumentsOf(", was = "case 'p':", is = "")
    static void orderOfPuts() {
        likeCall("p0 0 4;", x -> x.puts(0, 0, 4));
        likeCall("p5 4 0;", x -> x.puts(5, 4, 0));
        likeCall("p0 4 4;", x -> x.puts(0, 4, 4));
        bad("p6 0 0;", 0);
        bad("p0 5 0;", 0);
        bad("p0 0 5;", 0);
        bad("p9999 0 0;", 0);
        fault("p0 0;", 4);
        fault("p0 0 0 0;", 7);
        fault("p-1 0 0;", 1);
        fault("p0 -1 0;", 3);
        fault("p0 0-1;", 4);
    }

    @Sentence(words = "m s a b (as meets())")
    @Broken(in = "int carryOut(", was = "putMeet(v[0], v[1], v[2])", is = "putJoin(v[0], v[1], v[2])")
    @Broken(in = "int carryOut(", was = "putMeet(v[0], v[1], v[2])", is = "putMeet(v[2], v[1], v[0])")
    @Broken(in = "int argumentsOf(", was = "case 'm':", is = "")
    static void orderOfMeets() {
        likeCall("m0 5 1;", x -> x.meets(0, 5, 1));
        likeCall("m5 1 5;", x -> x.meets(5, 1, 5));
        likeCall("m5 5 5;", x -> x.meets(5, 5, 5));
        bad("m6 0 0;", 0);
        bad("m0 6 0;", 0);
        bad("m0 0 6;", 0);
        fault("m0 0;", 4);
        fault("m0 0 0 0;", 7);
        fault("m0 0-0;", 4);
    }

    @Sentence(words = "j s a b (as joins())")
    @Broken(in = "int carryOut(", was = "putJoin(v[0], v[1], v[2])", is = "putMeet(v[0], v[1], v[2])")
    @Broken(in = "int carryOut(", was = "putJoin(v[0], v[1], v[2])", is = "putJoin(v[2], v[1], v[0])")
    @Broken(in = "int argumentsOf(", was = "case 'j':", is = "")
    static void orderOfJoins() {
        likeCall("j0 0 5;", x -> x.joins(0, 0, 5));
        likeCall("j5 1 0;", x -> x.joins(5, 1, 0));
        likeCall("j0 0 0;", x -> x.joins(0, 0, 0));
        bad("j6 0 0;", 0);
        bad("j0 6 0;", 0);
        bad("j0 0 6;", 0);
        fault("j0 0;", 4);
        fault("j0 0 0 0;", 7);
        fault("j0 0-0;", 4);
    }

    @Sentence(words = "k s a (as complements())")
    @Broken(in = "int carryOut(", was = "putComplement(v[0], v[1])", is = "putComplement(v[1], v[0])")
    @Broken(in = "int carryOut(", was = "putComplement(v[0], v[1])", is = "putTurned(v[0], v[1])")
    @Broken(in = "int argumentsOf(", was = "case 'k':", is = "")
    static void orderOfComplements() {
        likeCall("k0 5;", x -> x.complements(0, 5));
        likeCall("k5 0;", x -> x.complements(5, 0));
        likeCall("k1 1;", x -> x.complements(1, 1));
        likeCall("k1 5;", x -> x.complements(1, 5));
        bad("k6 0;", 0);
        bad("k0 6;", 0);
        fault("k0;", 2);
        fault("k0 0 0;", 5);
        fault("k0-0;", 2);
    }

    @Sentence(words = "t s a (as turns())")
    @Broken(in = "int carryOut(", was = "putTurned(v[0], v[1])", is = "putTurned(v[1], v[0])")
    @Broken(in = "int carryOut(", was = "putTurned(v[0], v[1])", is = "putComplement(v[0], v[1])")
    @Broken(in = "int argumentsOf(", was = "case 't':", is = "")
    static void orderOfTurns() {
        likeCall("t0 5;", x -> x.turns(0, 5));
        likeCall("t5 0;", x -> x.turns(5, 0));
        likeCall("t1 1;", x -> x.turns(1, 1));
        bad("t6 0;", 0);
        bad("t0 6;", 0);
        fault("t0;", 2);
        fault("t0 0 0;", 5);
        fault("t0-0;", 2);
    }

    @Sentence(words = "u s k (as takes())")
    @Broken(in = "int carryOut(", was = "putPlace(v[0], v[1])", is = "putPlace(v[0], v[1] > 9 ? 9 : v[1])")
    @Broken(in = "int argumentsOf(", was = "case 'u':", is = "")
    static void orderOfTakes() {
        likeCall("u0 0;", x -> x.takes(0, 0));
        likeCall("u5 41;", x -> x.takes(5, 41));
        likeCall("u5 10;", x -> x.takes(5, 10));
        bad("u6 0;", 0);
        bad("u0 42;", 0);
        bad("u0 9999;", 0);
        orders("n8;u0 1429;", 2);
        bad("n8;u0 1430;", 1);
        fault("u0;", 2);
        fault("u0 0 0;", 5);
        fault("u0 -1;", 3);
        fault("u0-1;", 2);
    }

    @Sentence(words = "and x n v (as number(); v may have a - before it)")
    @Broken(in = "boolean readsOrder()", was = "&& i == 1", is = "&& i >= 0")
    @Broken(in = "boolean readsOrder()", was = "letter == 'x' &&", is = "letter >= 'u' &&")
    @Broken(in = "boolean readsOrder()", was = "letter == 'x' && i == 1", is = "false")
    @Broken(in = "boolean readsNumber(", was = "isNegative ? -value", is = "isNegative ? value")
    @Broken(in = "int carryOut(", was = "changeNumber(v[0], v[1])", is = "changeNumber(v[0], v[1] == -9 ? -8 : v[1])")
    static void orderOfNumber() {
        likeCall("x1-9;", x -> x.number(1, -9));
        likeCall("x8 9;", x -> x.number(8, 9));
        likeCall("x8 -1;", x -> x.number(8, -1));
        likeCall("x4-0;", x -> x.number(4, 0));
        bad("x0 0;", 0);
        bad("x9 0;", 0);
        bad("x1 10;", 0);
        bad("x1-10;", 0);
        bad("x1 9999;", 0);
        bad("x1-9999;", 0);
        fault("x1;", 2);
        fault("x1 1 1;", 5);
        fault("x1-1-1;", 4);
        fault("x-1 1;", 1);
        fault("x1--1;", 3);
        fault("x1-;", 3);
        fault("x1+1;", 2);
        fault("u0-1;", 2);
    }

    @Sentence(words = "A number has one to four digits.")
    @Broken(in = "int MOST_DIGITS", was = "4", is = "3")
    @Broken(in = "int MOST_DIGITS", was = "4", is = "5")
    @Broken(in = "boolean readsNumber(", was = "digits > 0", is = "digits >= 0")
    static void digits() {
        fault("n;", 1);
        fault("n ;", 2);
        orders("n5;", 1);
        orders("n0005;", 1);
        fault("n00005;", 5);
        bad("n9999;", 0);
        fault("n99999;", 5);
        fault("n99999999999999999999;", 5);
        orders("p0005 0004 0000;", 1);
        fault("p00005 0 0;", 5);
        fault("p0 00004 0;", 7);
        fault("p0 0 00004;", 9);
        orders("x0008-0009;", 1);
        fault("x1-00009;", 7);
        fault("x1 -;", 4);
        fault("x00001-9;", 5);
        fault("n1a;", 2);
        fault("n/;", 1);
        fault("n:;", 1);
    }

    @Sentence(words = "Blanks (byte 32) may stand anywhere except inside a number and between - and the digits")
    @Broken(in = "void skipBlanks()", was = "bytes[at] == ' '", is = "bytes[at] <= ' '")
    @Broken(in = "int fault()", was = "skipBlanks();", is = "")
    @Broken(in = "boolean readsOrder()", was = "skipBlanks();", is = "")
    @Broken(in = "boolean readsNumber(", was = "skipBlanks();", is = "")
    @Broken(in = "boolean readsNumber(", was = "int value = 0;", is = "int value = 0; skipBlanks();")
    @Broken(in = "boolean readsNumber(", was = "digits++;",
        is = "digits++; if (found > 0) { at++; skipBlanks(); at--; }")
    @Broken(in = "readsNumber(i, mayBe", was = "skipBlanks();", is = "if (wanted > 1) skipBlanks();")
    static void blanks() {
        orders("   n   5   ;   ", 1);
        orders(" p  0   1    2     ;", 1);
        orders(" x  1   -9  ;", 1);
        orders("n5;                 n5;", 2);
        fault("n1 0;", 3);
        fault("x1-1 0;", 5);
        fault("x1- 9;", 3);
        fault("x1 - 9;", 4);
        fault("n5; n1 0;", 7);
        int[] others = {0, 9, 10, 13, 31, 33, 127};
        for (int c : others) {
            fault((char) c + "n5;", 0);
            fault("n" + (char) c + "5;", 1);
            fault("n5" + (char) c + ";", 2);
            fault("n5;" + (char) c, 3);
            fault("k1" + (char) c + "2;", 2);
        }
        UncrossedParts x = typed(" ", 117);
        Edges.type(x, "n1;");
        Check.due("117 blanks and an order", x.does(), 1);
        x = new UncrossedParts();
        Edges.type(x, "n1;" + " ".repeat(117));
        Check.due("an order and 117 blanks", x.does(), 1);
    }

    @Sentence(words = "they are needed only between two numbers of which the second one has no - before it (x1-5; is an"
        + " order).")
    @Broken(in = "boolean readsNumber(", was = "skipBlanks();",
        is = "if (at < length && bytes[at] == '-') { return false; } skipBlanks();")
    @Broken(in = "boolean readsNumber(", was = "digits < MOST_DIGITS", is = "digits < (found > 0 ? 1 : MOST_DIGITS)")
    static void neededBlanks() {
        orders("x1-5;", 1);
        orders("x1-5;x1 5;", 2);
        orders("n5;p0 1 2;m0 1 2;j0 1 2;k0 1;t0 1;u0 1;x1 1;x1-1;", 9);
        fault("x15;", 3);
        fault("k12;", 3);
        fault("p012;", 4);
        fault("p0 12;", 5);
        fault("p01 2;", 5);
        fault("n5;p012;", 7);
        bad("u012 3;", 0);
    }

    @Sentence(words = "The fault of the text is the place (counted from 0) of the first byte that cannot stand there (a"
        + " fifth digit included)")
    @Broken(in = "public int does()", was = "-10 - fault", is = "-11 - fault")
    @Broken(in = "int fault()", was = "return at", is = "return at > 118 ? 118 : at")
    @Broken(in = "int MOST_DIGITS", was = "4", is = "5")
    static void faultyByte() {
        fault("!", 0);
        fault("5", 0);
        fault("-", 0);
        fault("n!", 1);
        fault("nn", 1);
        fault("n00000", 5);
        fault("n00000;", 5);
        fault("n5!;!", 2);
        UncrossedParts x = typed("n8;", 117);
        Edges.type(x, "n8!");
        Check.due("the 120th byte", x.does(), -129);
        x = typed("n8;", 114);
        Edges.type(x, "n00000");
        Check.due("a fifth digit as the 120th byte", x.does(), -129);
        x = typed(" ", 119);
        x.type(';');
        Check.due("the 120th byte behind blanks", x.does(), -129);
    }

    @Sentence(words = "or the length of the text if it ends too early (also if it is empty or consists of blanks only).")
    @Broken(in = "int fault()", was = "NONE : length", is = "NONE : 0")
    @Broken(in = "int fault()", was = "found > 0 ? NONE : length", is = "found > 0 || length == 0 ? NONE : length")
    @Broken(in = "int fault()", was = "return at", is = "return at < length ? at : length - 1")
    @Broken(in = "int fault()", was = "found > 0 ? NONE : length",
        is = "found > 0 ? NONE : length < MOST_TEXT ? length : 119")
    static void tooEarly() {
        String order = "x1-5;";
        fault("", 0);
        for (int length = 1; length < order.length(); length++) {
            fault(order.substring(0, length), length);
            fault("n5; " + order.substring(0, length), 4 + length);
        }
        fault("p0 1 ", 5);
        fault("n0000", 5);
        fault(" ", 1);
        for (int length = 0; length <= 120; length += length < 118 ? 59 : 1) {
            Check.due(length + " blanks", typed(" ", length).does(), -10 - length);
        }
        UncrossedParts x = typed("n8;", 117);
        Edges.type(x, "n8");
        Check.due("119 bytes", x.does(), -129);
        x.type(' ');
        Check.due("120 bytes", x.does(), -130);
        x.type(';');
        Check.due("no room for the semicolon", x.does(), -130);
    }

    @Sentence(promise = 22, words = "c: the byte, 0 to 127")
    @Broken(in = "public int type(", was = "c < 0", is = "c < 1")
    @Broken(in = "public int type(", was = "c < 0", is = "c < -1")
    @Broken(in = "public int type(", was = "c > 127", is = "c > 126")
    @Broken(in = "public int type(", was = "c > 127", is = "c > 128")
    static void typeRange() {
        Edges.range("type", 4, 0, 127, (x, c) -> x.type(c));
        for (int c = 0; c < 128; c++) {
            Check.due("type(" + c + ")", new UncrossedParts().type(c), 1);
        }
    }

    @Sentence(promise = 22, words = "Returns the length of the text")
    @Broken(in = "public int type(", was = "return orders.length", is = "return orders.length - 1")
    @Broken(in = "public int type(", was = "return orders.length", is = "return c")
    static void typeReturns() {
        UncrossedParts x = new UncrossedParts();
        for (int i = 1; i <= 120; i++) {
            Check.due("byte " + i, x.type(i), i);
        }
        x.clear();
        Check.due("behind clear()", x.type(127), 1);
    }

    @Sentence(promise = 22, words = "BAD if c is out of range")
    @Broken(in = "public int type(", was = "return bad()", is = "return no()")
    @Broken(in = "public int type(", was = "return bad()", is = "return BAD")
    @Broken(in = "public int type(", was = "c < 0", is = "c == -1")
    @Broken(in = "public int type(", was = "c > 127", is = "c > 127 && c < 256")
    @Broken(in = "public int type(", was = "return bad()", is = "return clear() < 0 ? 0 : bad()")
    static void typeBad() {
        Edges.bad("type", 8, 0, 127, (x, c) -> x.type(c));
        Edges.refused("type(256)", 8, -2, x -> x.type(256));
        Edges.refused("type(160)", 8, -2, x -> x.type(160));
    }

    /** A full text, with an order at its beginning, is not changed by one byte more. */
    @Sentence(promise = 22, words = "FULL if the text has 120 bytes")
    @Broken(in = "public int type(", was = "return FULL", is = "return BAD")
    @Broken(in = "public int type(", was = "fulls++;", is = "")
    @Broken(in = "public int type(", was = "fulls++;", is = "bads++;")
    @Broken(in = "public int type(", was = "fulls++;", is = "fulls++; orders.length = 0;")
    @Broken(in = "public int type(", was = "fulls++;", is = "fulls++; orders.bytes[119] = c;")
    @Broken(in = "public int type(", was = "orders.length >= MOST_TEXT", is = "orders.length >= MOST_TEXT - 1")
    static void typeFull() {
        UncrossedParts x = Edges.full(8);
        UncrossedParts y = Edges.full(8);
        for (int i = 14; i <= 120; i++) {
            Check.due("byte " + i, x.type(' '), i);
            y.type(' ');
        }
        Check.due("one byte more", x.type('!'), -4);
        Edges.same("behind a full text", x, y, -4);
        UncrossedParts z = typed("n8;", 120);
        int[] all = {0, ' ', 127};
        for (int c : all) {
            Check.due("type(" + c + ") into a full text", z.type(c), -4);
        }
        Check.due("told(2)", z.told(2), 3);
        Check.due("the full text is as it was", z.does(), 40);
        z.clear();
        Check.due("there is room again", z.type(0), 1);
    }

    @Sentence(promise = 23, words = "Empties the text.")
    @Broken(in = "public int clear()", was = "orders.length = 0", is = "orders.length = had > 0 ? had - 1 : 0")
    @Broken(in = "public int clear()", was = "orders.length = 0", is = "orders.length = had == MOST_TEXT ? 1 : 0")
    @Broken(in = "public int clear()", was = "orders.length = 0;", is = "orders.length = 0; past.held = 0;")
    static void clearEmpties() {
        UncrossedParts x = typed("n8;", 120);
        x.does();
        x.clear();
        Check.due("told(3)", x.told(3), 0);
        Check.due("does()", x.does(), -10);
        Check.due("the call before can still be undone", x.told(4), 1);
        Edges.type(x, "n7;");
        Check.due("nothing of it is left", x.does(), 1);
        Check.due("count(0)", x.count(0), 7);
        x.clear();
        x.clear();
        Check.due("told(3)", x.told(3), 0);
    }

    @Sentence(promise = 23, words = "Returns the length that it had")
    @Broken(in = "public int clear()", was = "return had", is = "return orders.length")
    @Broken(in = "public int clear()", was = "return had", is = "return had > 0 ? had : NO")
    @Broken(in = "public int clear()", was = "return had", is = "return had < MOST_TEXT ? had : FULL")
    static void clearReturns() {
        UncrossedParts x = new UncrossedParts();
        Check.due("an empty text", x.clear(), 0);
        x.type(0);
        Check.due("one byte", x.clear(), 1);
        Check.due("an empty text again", x.clear(), 0);
        x = typed("\n", 120);
        x.type('n');
        Check.due("a full text", x.clear(), 120);
        Check.due("told(1)", x.told(1), 0);
    }

    @Sentence(promise = 24, words = "The text stays.")
    @Broken(in = "public int does()", was = "past.keep();", is = "past.keep(); orders.length = 0;")
    @Broken(in = "public int does()", was = "return -10 - fault", is = "orders.length = 0; return -10 - fault")
    @Broken(in = "public int does()", was = "return -1000 - i", is = "orders.length = 0; return -1000 - i")
    static void textStays() {
        UncrossedParts x = typed("n1;", 120);
        Check.due("does()", x.does(), 40);
        Check.due("told(3)", x.told(3), 120);
        Check.due("does() again", x.does(), 40);
        x.back();
        Check.due("told(3) behind back()", x.told(3), 120);
        x = typed("n9;", 3);
        Check.due("a bad order", x.does(), -1000);
        Check.due("a bad order again", x.does(), -1000);
        Check.due("told(3)", x.told(3), 3);
        x.type('!');
        Check.due("a fault", x.does(), -13);
        Check.due("a fault again", x.does(), -13);
        Check.due("told(3)", x.told(3), 4);
    }

    /** Nothing is done, undone or counted by the text, whatever is wrong with it. */
    private static void nothingDone(String text, int answer) {
        UncrossedParts x = Edges.full(5);
        UncrossedParts y = Edges.full(5);
        Check.due("does() of '" + text + "'", Edges.done(x, text), answer);
        y.clear();
        Edges.type(y, text);
        Edges.same("behind does() of '" + text + "'", x, y, 0);
    }

    @Sentence(promise = 24, words = "If the text has a fault, or if one of the calls would return an error code when its"
        + " turn comes, nothing is done.")
    @Broken(in = "public int does()", was = "board.now.copy(past.prepared());", is = "")
    @Broken(in = "public int does()", was = "board.now.copy(past.prepared());",
        is = "board.now.copy(past.prepared()); past.keep();")
    @Broken(in = "public int does()", was = "fault != NONE", is = "fault != NONE && fault < orders.length")
    static void nothingIsDone() {
        nothingDone("n1;x1 1;n9;", -1002);
        nothingDone("x1 1;p0 0 4;k1 0;x0 1;", -1003);
        nothingDone("n9;x1 1;", -1000);
        nothingDone("n1;x1 1", -17);
        nothingDone("n1;x1 1;!", -18);
        nothingDone("", -10);
        // A call that is good before the orders, and bad when its turn comes; and the other way round.
        nothingDone("u0 41;n4;u0 14;", -1002);
        nothingDone("p0 0 4;n4;p0 0 4;", -1002);
        orders("n8;u0 1429;p0 0 7;", 3);
        orders("n1;n8;p5 7 7;", 3);
    }

    @Sentence(promise = 24, words = "All orders together can be undone as one call.")
    @Broken(in = "public int does()", was = "past.keep();", is = "past.keep(); past.keep();")
    @Broken(in = "public int does()", was = "past.keep();", is = "")
    @Broken(in = "public int does()", was = "past.prepare(board.now);", is = "")
    static void undoneAsOne() {
        UncrossedParts x = typed("n1;", 120);
        x.points(5);
        x.puts(0, 0, 4);
        Check.due("forty orders", x.does(), 40);
        Check.due("told(4)", x.told(4), 3);
        Check.due("back()", x.back(), 2);
        Check.due("count(0)", x.count(0), 5);
        Check.due("row(0, 4)", x.row(0, 4), 0);
        Edges.undone("does()", y -> y.does());
        UncrossedParts y = Edges.at(1);
        Edges.type(y, "n1;");
        for (int i = 1; i <= 6; i++) {
            y.does();
            Check.due("does() " + i + " times: told(4)", y.told(4), Math.min(i + 1, 5));
        }
    }

    @Sentence(promise = 24, words = "Returns the number of orders")
    @Broken(in = "public int does()", was = "return orders.found", is = "return orders.found - 1")
    @Broken(in = "public int does()", was = "return orders.found", is = "return orders.length / 3")
    static void doesReturns() {
        orders("n1;", 1);
        orders("  n0001  ;  ", 1);
        for (int count = 1; count <= 40; count++) {
            Check.due(count + " orders", typed("n1;", 3 * count).does(), count);
        }
    }

    @Sentence(promise = 24, words = "-10 minus the fault if the text has one")
    @Broken(in = "public int does()", was = "-10 - fault", is = "-10 + fault")
    @Broken(in = "public int does()", was = "-10 - fault", is = "-9 - fault")
    @Broken(in = "public int does()", was = "return -10 - fault;", is = "past.keep(); return -10 - fault;")
    static void doesFault() {
        Check.due("an empty text", new UncrossedParts().does(), -10);
        Check.due("a fault at 0", answer("?"), -10);
        Check.due("one blank", answer(" "), -11);
        Check.due("a fault at 1", answer("n?"), -11);
        Check.due("120 blanks", typed(" ", 120).does(), -130);
        UncrossedParts x = typed(" ", 119);
        x.type('?');
        Check.due("a fault at 119", x.does(), -129);
        Check.due("told(4)", x.told(4), 0);
        Check.due("a fault behind a bad order", answer("n9;?"), -13);
        Check.due("a fault before a bad order", answer("n?;n9;"), -11);
    }

    @Sentence(promise = 24, words = "-1000 minus the index (counted from 0) of the first order whose call would return an"
        + " error code")
    @Broken(in = "public int does()", was = "-1000 - i", is = "-1001 - i")
    @Broken(in = "public int does()", was = "-1000 - i", is = "-1000 + i")
    @Broken(in = "public int does()", was = "int i = 0", is = "int i = orders.found > 39 ? 1 : 0")
    @Broken(in = "public int does()", was = "i < orders.found;", is = "i < orders.found && i < 39;")
    static void doesBad() {
        bad("n9;", 0);
        bad("n9;n9;", 0);
        bad("n1;n9;n9;", 1);
        UncrossedParts x = typed("n1;", 117);
        Edges.type(x, "n9;");
        Check.due("the fortieth order", x.does(), -1039);
        x = new UncrossedParts();
        Edges.type(x, "n9;" + "n1;".repeat(39));
        Check.due("the first of forty orders", x.does(), -1000);
        Check.due("told(0)", x.told(0), 0);
    }
}
