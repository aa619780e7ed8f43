/** Runs of calls on the class and on the model of the document: all answers must be the same. */
public final class RandomRunsTest {
    private static final int RUNS = 400;
    private static final int CALLS = 511;

    private final Dice dice;
    private final String name;
    private final UncrossedParts x = new UncrossedParts();
    private final Model model = new Model();

    private RandomRunsTest(int run) {
        dice = new Dice(run);
        name = "run " + run + ", call ";
    }

    public static void main(String[] args) {
        for (int run = 0; run < RUNS; run++) {
            new RandomRunsTest(run).compare(run);
        }
        Check.end();
    }

    private void compare(int run) {
        // Some runs stay at one N, so that the slots fill up.
        int stay = run % 3;
        if (stay > 0) {
            int n = 1 + run / 3 % 8;
            Check.due(name + "0: points(" + n + ")", x.points(n), model.changed('n', n, 0, 0));
        }
        for (int call = 1; call < CALLS; call++) {
            String at = name + call + ": ";
            int kind = dice.below(100);
            if (kind < 40) {
                change(at, stay);
            } else if (kind < 80) {
                query(at);
            } else if (kind < 83) {
                texts(at, call + 40 < CALLS ? dice.below(40) : 0);
                call += 40;
            } else if (kind < 88) {
                Check.due(at + "back()", x.back(), model.back());
            } else if (kind < 93) {
                digest(at);
            } else {
                states(at);
            }
        }
        digest(name + CALLS + ": ");
    }

    private void digest(String at) {
        Check.due(at + "digest()", x.digest(), model.digest());
    }

    private int slot() {
        return dice.about(0, 5);
    }

    private int point() {
        return dice.about(0, model.points() - 1);
    }

    private void change(String at, int stay) {
        int a = slot();
        int b = slot();
        int c = slot();
        switch (dice.below(stay > 0 ? 20 : 24)) {
            case 0:
            case 1:
            case 2:
            case 3:
            case 4:
                b = point();
                c = point();
                Check.due(at + "puts(" + a + ", " + b + ", " + c + ")", x.puts(a, b, c), model.changed('p', a, b, c));
                break;
            case 5:
            case 6:
            case 7:
                Check.due(at + "meets(" + a + ", " + b + ", " + c + ")", x.meets(a, b, c), model.changed('m', a, b, c));
                break;
            case 8:
            case 9:
            case 10:
                Check.due(at + "joins(" + a + ", " + b + ", " + c + ")", x.joins(a, b, c), model.changed('j', a, b, c));
                break;
            case 11:
            case 12:
                Check.due(at + "complements(" + a + ", " + b + ")", x.complements(a, b), model.changed('k', a, b, 0));
                break;
            case 13:
            case 14:
                Check.due(at + "turns(" + a + ", " + b + ")", x.turns(a, b), model.changed('t', a, b, 0));
                break;
            case 15:
            case 16:
            case 17:
                b = dice.about(0, model.partitions() - 1);
                Check.due(at + "takes(" + a + ", " + b + ")", x.takes(a, b), model.changed('u', a, b, 0));
                break;
            case 18:
            case 19:
                a = dice.about(1, 8);
                b = dice.about(-9, 9);
                Check.due(at + "number(" + a + ", " + b + ")", x.number(a, b), model.changed('x', a, b, 0));
                break;
            default:
                a = dice.about(1, 8);
                Check.due(at + "points(" + a + ")", x.points(a), model.changed('n', a, 0, 0));
                break;
        }
    }

    private void query(String at) {
        int a = slot();
        int b = slot();
        switch (dice.below(12)) {
            case 0:
                b = dice.about(0, 5);
                Check.due(at + "of(" + a + ", " + b + ")", x.of(a, b), model.of(a, b));
                break;
            case 1:
                b = point();
                Check.due(at + "row(" + a + ", " + b + ")", x.row(a, b), model.row(a, b));
                break;
            case 2:
                Check.due(at + "below(" + a + ", " + b + ")", x.below(a, b), model.below(a, b));
                break;
            case 3:
                a = dice.about(0, 9);
                Check.due(at + "count(" + a + ")", x.count(a), model.count(a));
                break;
            case 4:
                Check.due(at + "evens()", x.evens(), model.evens());
                break;
            case 5:
                b = dice.about(0, 28);
                Check.due(at + "covers(" + a + ", " + b + ")", x.covers(a, b), model.covers(a, b));
                break;
            case 6:
                Check.due(at + "mark(" + a + ", " + b + ")", x.mark(a, b), model.mark(a, b));
                break;
            case 7:
                Check.due(at + "chains(" + a + ", " + b + ")", x.chains(a, b), model.interval(0, a, b));
                break;
            case 8:
                a = labels();
                Check.due(at + "marked(" + a + ")", x.marked(a), model.marked(a));
                break;
            case 9:
                Check.due(at + "signed(" + a + ", " + b + ")", x.signed(a, b), model.interval(1, a, b));
                break;
            case 10:
                Check.due(at + "between(" + a + ", " + b + ")", x.between(a, b), model.interval(2, a, b));
                break;
            default:
                a = dice.about(0, 2);
                b = dice.about(0, 2);
                int n = dice.about(1, 8);
                Check.due(at + "as(" + a + ", " + b + ", " + n + ")", x.as(a, b, n), model.as(a, b, n));
                break;
        }
    }

    private int labels() {
        if (dice.below(10) == 0) {
            return dice.about(0, 12345678);
        }
        int labels = 0;
        for (int i = 1; i < model.points(); i++) {
            labels = 10 * labels + dice.below(dice.below(2) == 0 ? i : 3);
        }
        return labels;
    }

    /** Types orders that are mostly in order, and carries them out. */
    private void texts(String at, int bytes) {
        if (dice.below(3) > 0) {
            Check.due(at + "clear()", x.clear(), model.clear());
        }
        StringBuilder text = new StringBuilder();
        while (text.length() < bytes) {
            text.append(order());
        }
        if (dice.below(4) == 0 && text.length() > 0) {
            text.setCharAt(dice.below(text.length()), "npmjktux -;019"
                .charAt(dice.below(14)));
        }
        for (int i = 0; i < Math.min(text.length(), bytes + 5); i++) {
            int c = text.charAt(i);
            Check.due(at + "type(" + c + ")", x.type(c), model.type(c));
        }
        Check.due(at + "does() of " + text, x.does(), model.does());
    }

    private String order() {
        int n = 8;
        String gap = dice.below(3) == 0 ? " " : "";
        switch (dice.below(9)) {
            case 0:
                return "n" + gap + (2 + dice.below(7)) + gap + ";";
            case 1:
                return "p" + gap + dice.below(6) + " " + dice.below(n) + gap + " " + dice.below(4) + ";" + gap;
            case 2:
                return "m" + dice.below(6) + gap + " " + dice.below(6) + " " + dice.below(6) + gap + ";";
            case 3:
                return "j" + dice.below(6) + " " + dice.below(6) + " " + dice.below(6) + ";";
            case 4:
                return gap + "k" + dice.below(6) + " " + dice.below(6) + ";";
            case 5:
                return "t" + gap + dice.below(6) + " " + gap + dice.below(6) + ";";
            case 6:
                return "u" + dice.below(6) + " " + dice.below(50) + ";";
            case 7:
                return "x" + (1 + dice.below(8)) + gap + "-" + dice.below(10) + gap + ";";
            default:
                return "x" + (1 + dice.below(8)) + " " + gap + dice.below(10) + ";";
        }
    }

    private void states(String at) {
        switch (dice.below(4)) {
            case 0:
                int c = dice.about(0, 127);
                Check.due(at + "type(" + c + ")", x.type(c), model.type(c));
                break;
            case 1:
                Check.due(at + "does()", x.does(), model.does());
                break;
            default:
                int what = dice.about(0, 4);
                Check.due(at + "told(" + what + ")", x.told(what), model.told(what));
                break;
        }
    }
}
