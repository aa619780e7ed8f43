/** The text: its faults, against a pattern of all right texts, and what its orders do. */
public final class TextTest {
    private static final String SIGNS = "npux -;019q";

    private TextTest() {
    }

    public static void main(String[] args) {
        shortOnes(new StringBuilder(), 0);
        mixedOnes();
        wholeNumbers();
        fullText();
        transactions();
        everyByte();
        Check.end();
    }

    private static void type(UncrossedParts x, String text) {
        x.clear();
        for (int i = 0; i < text.length(); i++) {
            x.type(text.charAt(i));
        }
    }

    private static int done(UncrossedParts x, String text) {
        type(x, text);
        return x.does();
    }

    private static void fault(String text, int place) {
        Check.due("the fault of '" + text + "'", done(new UncrossedParts(), text), -10 - place);
    }

    /** Whether the orders can be carried out is not asked here: the fault alone. */
    private static void compared(UncrossedParts x, String text) {
        int answer = done(x, text);
        int fault = Model.fault(text);
        int got = answer > 0 || answer <= -1000 ? UncrossedParts.NONE : -10 - answer;
        if (got != fault) {
            Check.due("the fault of '" + text + "'", got, fault);
        }
    }

    private static void shortOnes(StringBuilder text, int length) {
        compared(new UncrossedParts(), text.toString());
        if (length == 5) {
            return;
        }
        for (int i = 0; i < SIGNS.length(); i++) {
            text.append(SIGNS.charAt(i));
            shortOnes(text, length + 1);
            text.setLength(length);
        }
    }

    private static void mixedOnes() {
        Dice dice = new Dice(77);
        String[] orders = {"n 4;", "p0 1 2;", "m 0 1 2 ;", "j5 4 3;", " k 1 2;", "t0 0;", "u 1 13;", "x1 -5;", "x2-0009;",
            "x 3  7;", "n0008;", "u0 1429;"};
        String signs = "npmjktux  --;;0159.A~";
        for (int i = 0; i < 40000; i++) {
            StringBuilder text = new StringBuilder();
            for (int k = dice.below(6); k >= 0; k--) {
                text.append(orders[dice.below(orders.length)]);
            }
            for (int k = dice.below(4); k > 0 && text.length() > 0; k--) {
                int place = dice.below(text.length());
                if (dice.below(3) == 0) {
                    text.deleteCharAt(place);
                } else if (dice.below(2) == 0) {
                    text.setCharAt(place, signs.charAt(dice.below(signs.length())));
                } else {
                    text.insert(place, signs.charAt(dice.below(signs.length())));
                }
            }
            compared(new UncrossedParts(), text.toString());
        }
    }

    private static void wholeNumbers() {
        fault("", 0);
        fault("   ", 3);
        fault(";", 0);
        fault(" n", 2);
        fault("n;", 1);
        fault("n5", 2);
        fault("n5 ", 3);
        fault("n5 6;", 3);
        fault("n5;;", 3);
        fault("n00005;", 5);
        fault("n-5;", 1);
        fault("N5;", 0);
        fault("p0 1;", 4);
        fault("p012;", 4);
        fault("p0 1-2;", 4);
        fault("u0 1;k", 6);
        fault("u0 12345;", 7);
        fault("u0 -1;", 3);
        fault("x1;", 2);
        fault("x-1 5;", 1);
        fault("x1- 5;", 3);
        fault("x1--5;", 3);
        fault("x1-;", 3);
        fault("x1-5-5;", 4);
        fault("x1-00005;", 7);
        fault("x1\t5;", 2);
        Check.due("blanks anywhere", done(new UncrossedParts(), "  n  5  ;  p 0  1   2 ;  "), 2);
        Check.due("no blanks", done(new UncrossedParts(), "n5;x1-5;"), 2);
        Check.due("a blank before the -", done(new UncrossedParts(), "x 1 -5 ;"), 1);
        Check.due("leading zeros", done(new UncrossedParts(), "n0005;x0001-0009;"), 2);
        Check.due("minus nothing", done(new UncrossedParts(), "x1-0;"), 1);
        Check.due("the greatest number", done(new UncrossedParts(), "n5;u0 9999;"), -1001);
    }

    private static void fullText() {
        UncrossedParts x = new UncrossedParts();
        for (int i = 1; i <= 120; i++) {
            Check.due("type " + i, x.type("n1;".charAt((i - 1) % 3)), i);
        }
        Check.due("no room", x.type('n'), UncrossedParts.FULL);
        Check.due("out of range before no room", x.type(128), UncrossedParts.BAD);
        Check.due("told(2)", x.told(2), 1);
        Check.due("told(3)", x.told(3), 120);
        Check.due("forty orders", x.does(), 40);
        Check.due("all of them as one call", x.told(4), 1);
        Check.due("back", x.back(), 0);
        Check.due("the N from before", x.count(0), 4);
        Check.due("clear", x.clear(), 120);
        Check.due("clear again", x.clear(), 0);
        Check.due("type again", x.type(0), 1);
        fault("n1;".repeat(39) + "n1 ", 120);
    }

    private static void transactions() {
        UncrossedParts x = new UncrossedParts();
        Check.due("one order of each kind", done(x, "n5;p0 0 4;p1 1 3;j2 0 1;m3 0 2;k4 0;t5 0;u1 7;x1 2;x2-3;"), 10);
        Check.due("count(0)", x.count(0), 5);
        Check.due("row(2, 3)", x.row(2, 3), 1);
        Check.due("row(3, 4)", x.row(3, 4), 0);
        Check.due("row(4, 3)", x.row(4, 3), 0);
        Check.due("row(5, 1)", x.row(5, 1), 0);
        Check.due("of(1, 0)", x.of(1, 0), 7);
        Check.due("number(2, 0)", x.number(2, 0), 97);
        long before = x.digest();
        Check.due("a bad order at the end", done(x, "n3;p0 0 1;x1 9;p0 0 3;"), -1003);
        x.clear();
        type(x, "n5;p0 0 4;p1 1 3;j2 0 1;m3 0 2;k4 0;t5 0;u1 7;x1 2;x2-3;");
        Check.due("nothing is done", x.digest(), before);
        Check.due("nothing is counted", x.told(0), 0);
        Check.due("a place that an order before makes bad", done(x, "u0 13;n3;u0 5;"), -1002);
        Check.due("a place that an order before makes good", done(x, "n8;u0 1429;"), 2);
        Check.due("the text stays", x.told(3), 11);
        Check.due("the same again", x.does(), 2);
        Check.due("told(4)", x.told(4), 4);
        Check.due("a fault before a bad order", done(x, "n9;-"), -13);
        Check.due("the first bad order", done(x, "n1;x0 1;n9;"), -1001);
        Check.due("told(4) as before", x.told(4), 4);
        Check.due("x(1) as before", x.number(1, 0), 102);
    }

    private static void everyByte() {
        for (int c = 0; c < 128; c++) {
            UncrossedParts x = new UncrossedParts();
            Check.due("type(" + c + ")", x.type(c), 1);
            boolean canBegin = c == ' ' || "npmjktux".indexOf(c) >= 0;
            Check.due("the fault of byte " + c, x.does(), canBegin ? -11 : -10);
        }
    }
}
