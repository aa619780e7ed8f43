/** as(), against the sums over all partitions that the document names. */
public final class NumbersTest {
    private NumbersTest() {
    }

    public static void main(String[] args) {
        Dice dice = new Dice(5);
        for (int i = 0; i < 300; i++) {
            long[] numbers = new long[9];
            for (int n = 1; n <= 8; n++) {
                numbers[n] = i < 2 ? 9 - 18 * i : i == 2 ? (n % 2 == 0 ? 9 : -9) : dice.below(19) - 9;
            }
            all(numbers);
        }
        Check.end();
    }

    private static void all(long[] numbers) {
        UncrossedParts x = new UncrossedParts();
        StringBuilder name = new StringBuilder();
        for (int n = 1; n <= 8; n++) {
            Check.due("number(" + n + ", " + numbers[n] + ")", x.number(n, (int) numbers[n]), 100);
            name.append(numbers[n]).append(' ');
        }
        for (int j = 0; j < 3; j++) {
            for (int k = 0; k < 3; k++) {
                long[] wanted = AllParts.convert(numbers, j, k);
                for (int n = 1; n <= 8; n++) {
                    Check.due(name + ": as(" + j + ", " + k + ", " + n + ")", x.as(j, k, n), wanted[n]);
                }
            }
        }
        for (int n = 1; n <= 8; n++) {
            Check.due(name + ": as(1, 1, " + n + ")", x.as(1, 1, n), numbers[n]);
        }
    }
}
