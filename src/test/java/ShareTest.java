import java.math.BigInteger;
import java.util.ArrayList;
import java.util.Comparator;
import java.util.List;
import java.util.Random;

/** Promises 16 and 17: weight, share. */
public final class ShareTest {
    public static void main(String[] args) {
        sharesByHand();
        weightsMayChange();
        greatestCents();
        weightRefusals();
        shareRefusals();
        sharesByChance();
        Check.finish("ShareTest");
    }

    private static CostBooks weighing(int... weights) {
        CostBooks books = new CostBooks();
        for (int i = 0; i < weights.length; i++) {
            books.weight(i, weights[i]);
        }
        return books;
    }

    private static void shares(CostBooks books, int cents, int... due) {
        for (int i = 0; i < due.length; i++) {
            int house = i;
            Check.answers("share of " + cents + " for " + i, due[i], () -> books.share(house, cents));
        }
    }

    private static void sharesByHand() {
        shares(weighing(1, 1, 1, 0, 0, 0), 100, 34, 33, 33, 0, 0, 0);
        shares(weighing(1, 1, 1, 1, 1, 1), 5, 1, 1, 1, 1, 1, 0);
        shares(weighing(1, 1, 1, 1, 1, 1), 6, 1, 1, 1, 1, 1, 1);
        shares(weighing(1, 1, 1, 1, 1, 1), 0, 0, 0, 0, 0, 0, 0);
        // Remainders of 10 in sevenths: 3, 6, 5.
        shares(weighing(1, 2, 4), 10, 1, 3, 6, 0, 0, 0);
        // The greatest remainder is the last house's.
        shares(weighing(1, 1, 0, 0, 0, 2), 101, 25, 25, 0, 0, 0, 51);
        shares(weighing(0, 0, 0, 0, 0, 1), 77, 0, 0, 0, 0, 0, 77);
        shares(weighing(0, 1, 0, 1), 1, 0, 1, 0, 0, 0, 0);
    }

    private static void weightsMayChange() {
        CostBooks books = weighing(1, 3);
        shares(books, 8, 2, 6);
        books.weight(0, 3);
        shares(books, 8, 4, 4);
        books.weight(1, 0);
        shares(books, 8, 8, 0);
        books.weight(0, 0);
        Check.refuses("all weights are 0 again", Check.ARITHMETIC, () -> books.share(0, 8));
    }

    private static void greatestCents() {
        shares(weighing(1_000, 1_000, 1_000, 1_000, 1_000, 1_000), 100_000_000,
                16_666_667, 16_666_667, 16_666_667, 16_666_667, 16_666_666, 16_666_666);
        shares(weighing(1_000), 100_000_000, 100_000_000, 0);
    }

    private static void weightRefusals() {
        CostBooks books = weighing(1, 1);
        for (int bad : Check.OUTSIDE_ALL) {
            Check.refuses("weight of " + bad, Check.UNKNOWN, () -> books.weight(bad, -1));
            Check.refuses("weight " + bad, Check.RANGE, () -> books.weight(0, bad));
        }
        Check.refuses("weight of house 6", Check.UNKNOWN, () -> books.weight(6, 1));
        Check.refuses("weight 1001", Check.RANGE, () -> books.weight(5, 1_001));
        shares(books, 10, 5, 5, 0, 0, 0, 0);
        Check.does("the last house, the most weight", () -> books.weight(5, 1_000));
        shares(books, 1_002, 1, 1, 0, 0, 0, 1_000);
    }

    private static void shareRefusals() {
        CostBooks books = new CostBooks();
        for (int bad : Check.OUTSIDE_ALL) {
            Check.refuses("share of " + bad, Check.UNKNOWN, () -> books.share(bad, -1));
            Check.refuses("share cents " + bad, Check.RANGE, () -> books.share(0, bad));
        }
        Check.refuses("share of house 6", Check.UNKNOWN, () -> books.share(6, 0));
        Check.refuses("share cents", Check.RANGE, () -> books.share(5, 100_000_001));
        Check.refuses("no weights", Check.ARITHMETIC, () -> books.share(5, 0));
        Check.refuses("no weights", Check.ARITHMETIC, () -> books.share(0, 100_000_000));
    }

    private static void sharesByChance() {
        Random chance = new Random(17);
        for (int i = 0; i < 2_000; i++) {
            int most = chance.nextBoolean() ? 1_000 : 6;
            int[] weights = new int[6];
            for (int house = 0; house < 6; house++) {
                weights[house] = chance.nextInt(4) == 0 ? 0 : chance.nextInt(most + 1);
            }
            weights[chance.nextInt(6)] = 1 + chance.nextInt(most);
            int cents = chance.nextBoolean() ? chance.nextInt(100_000_001) : chance.nextInt(50);
            shares(weighing(weights), cents, sharesBySorting(weights, cents));
        }
    }

    private static int[] sharesBySorting(int[] weights, int cents) {
        BigInteger sum = BigInteger.ZERO;
        for (int weight : weights) {
            sum = sum.add(BigInteger.valueOf(weight));
        }
        int[] parts = new int[weights.length];
        BigInteger[] remainders = new BigInteger[weights.length];
        List<Integer> houses = new ArrayList<>();
        int left = cents;
        for (int i = 0; i < weights.length; i++) {
            BigInteger product = BigInteger.valueOf(cents).multiply(BigInteger.valueOf(weights[i]));
            parts[i] = product.divide(sum).intValueExact();
            remainders[i] = product.mod(sum);
            houses.add(i);
            left -= parts[i];
        }
        // The sort is stable, so of the same remainders the lowest house stays first.
        houses.sort(Comparator.comparing((Integer i) -> remainders[i]).reversed());
        for (int i = 0; i < left; i++) {
            parts[houses.get(i)]++;
        }
        return parts;
    }
}
