import java.util.Random;

/** Promises 16 and 17: weight, share. */
public final class ShareTest {
    public static void main(String[] args) {
        sharesByHand();
        weightsMayChange();
        greatestCents();
        leftCentsByRemainders();
        sharesSumToAll();
        edgesOfAWeight();
        weightRefusals();
        shareRefusals();
        sharesByChance();
        Check.finish("ShareTest");
    }

    private static CostBooks weighing(int... weights) {
        CostBooks books = new CostBooks();
        for (int i = 0; i < weights.length; i++) {
            books.weight(i, weights[i]);
        }
        return books;
    }

    private static void shares(CostBooks books, int cents, int... due) {
        for (int i = 0; i < due.length; i++) {
            int house = i;
            Check.answers("share of " + cents + " for " + i, due[i], () -> books.share(house, cents));
        }
    }

    private static void sharesByHand() {
        shares(weighing(1, 1, 1, 0, 0, 0), 100, 34, 33, 33, 0, 0, 0);
        shares(weighing(1, 1, 1, 1, 1, 1), 5, 1, 1, 1, 1, 1, 0);
        shares(weighing(1, 1, 1, 1, 1, 1), 6, 1, 1, 1, 1, 1, 1);
        shares(weighing(1, 1, 1, 1, 1, 1), 0, 0, 0, 0, 0, 0, 0);
        // Remainders of 10 in sevenths: 3, 6, 5.
        shares(weighing(1, 2, 4), 10, 1, 3, 6, 0, 0, 0);
        // The greatest remainder is the last house's.
        shares(weighing(1, 1, 0, 0, 0, 2), 101, 25, 25, 0, 0, 0, 51);
        shares(weighing(0, 0, 0, 0, 0, 1), 77, 0, 0, 0, 0, 0, 77);
        shares(weighing(0, 1, 0, 1), 1, 0, 1, 0, 0, 0, 0);
    }

    private static void weightsMayChange() {
        CostBooks books = weighing(1, 3);
        shares(books, 8, 2, 6);
        books.weight(0, 3);
        shares(books, 8, 4, 4);
        books.weight(1, 0);
        shares(books, 8, 8, 0);
        books.weight(0, 0);
        Check.refuses("all weights are 0 again", Check.ARITHMETIC, () -> books.share(0, 8));
    }

    private static void greatestCents() {
        shares(weighing(1_000, 1_000, 1_000, 1_000, 1_000, 1_000), 100_000_000,
                16_666_667, 16_666_667, 16_666_667, 16_666_667, 16_666_666, 16_666_666);
        shares(weighing(1_000), 100_000_000, 100_000_000, 0);
    }

    private static void leftCentsByRemainders() {
        // Of 1 cent: remainders are the weights; the greatest gets it, of the same the lowest house.
        shares(weighing(1, 5, 3, 5, 0, 4), 1, 0, 1, 0, 0, 0, 0);
        shares(weighing(1, 4, 3, 5, 0, 5), 1, 0, 0, 0, 1, 0, 0);
        shares(weighing(5, 5, 3, 5, 0, 5), 1, 1, 0, 0, 0, 0, 0);
        // Three houses have the same greatest remainder: two cents go to the lower two, three to all of them.
        shares(weighing(5, 5, 3, 5, 0, 0), 2, 1, 1, 0, 0, 0, 0);
        shares(weighing(5, 5, 3, 5, 0, 0), 3, 1, 1, 0, 1, 0, 0);
        // A house whose part comes out even gets nothing of what is left, be it the lowest.
        shares(weighing(2, 1, 1), 2, 1, 1, 0, 0, 0, 0);
        shares(weighing(2, 1, 1), 6, 3, 2, 1, 0, 0, 0);
        // A house without weight gets nothing, be it the lowest.
        shares(weighing(0, 1, 1), 3, 0, 2, 1, 0, 0, 0);
        shares(weighing(1, 1_000), 1, 0, 1, 0, 0, 0, 0);
        shares(weighing(1, 1_000), 1_000, 1, 999, 0, 0, 0, 0);
        shares(weighing(1, 1_000), 1_001, 1, 1_000, 0, 0, 0, 0);
        shares(weighing(999, 1_000, 1_000, 1_000, 1_000, 1_000), 5, 0, 1, 1, 1, 1, 1);
    }

    private static void sharesSumToAll() {
        CostBooks books = weighing(7, 0, 11, 1_000, 13, 17);
        for (int cents : new int[] {0, 1, 2, 3, 4, 5, 6, 1_047, 1_048, 1_049, 99_999_999, 100_000_000}) {
            long sum = 0;
            for (int house = 0; house < 6; house++) {
                sum += books.share(house, cents);
            }
            Check.same("shares of " + cents + " to the last cent", sum, (long) cents);
        }
    }

    private static void edgesOfAWeight() {
        for (int house = 0; house < 6; house++) {
            int h = house;
            CostBooks books = new CostBooks();
            Check.does("the most of " + house, () -> books.weight(h, 1_000));
            Check.answers("all for " + house, 99, () -> books.share(h, 99));
            Check.answers("nothing for the next", 0, () -> books.share((h + 1) % 6, 99));
            Check.does("the least of " + house, () -> books.weight(h, 0));
            Check.refuses("nobody is left", Check.ARITHMETIC, () -> books.share(h, 99));
            Check.does("one of " + house, () -> books.weight(h, 1));
            Check.answers("all for one", 100_000_000, () -> books.share(h, 100_000_000));
        }
    }

    private static void weightRefusals() {
        CostBooks books = weighing(1, 1);
        for (int bad : Check.OUTSIDE_ALL) {
            Check.refuses("weight of " + bad, Check.UNKNOWN, () -> books.weight(bad, -1));
            Check.refuses("weight " + bad, Check.RANGE, () -> books.weight(0, bad));
        }
        Check.refuses("weight of house 6", Check.UNKNOWN, () -> books.weight(6, 1));
        Check.refuses("weight 1001", Check.RANGE, () -> books.weight(5, 1_001));
        shares(books, 10, 5, 5, 0, 0, 0, 0);
        Check.does("the last house, the most weight", () -> books.weight(5, 1_000));
        shares(books, 1_002, 1, 1, 0, 0, 0, 1_000);
    }

    private static void shareRefusals() {
        CostBooks books = new CostBooks();
        for (int bad : Check.OUTSIDE_ALL) {
            Check.refuses("share of " + bad, Check.UNKNOWN, () -> books.share(bad, -1));
            Check.refuses("share cents " + bad, Check.RANGE, () -> books.share(0, bad));
        }
        Check.refuses("share of house 6", Check.UNKNOWN, () -> books.share(6, 0));
        Check.refuses("share cents", Check.RANGE, () -> books.share(5, 100_000_001));
        Check.refuses("no weights", Check.ARITHMETIC, () -> books.share(5, 0));
        Check.refuses("no weights", Check.ARITHMETIC, () -> books.share(0, 100_000_000));
    }

    private static void sharesByChance() {
        Random chance = new Random(17);
        for (int i = 0; i < 2_000; i++) {
            int most = chance.nextBoolean() ? 1_000 : 6;
            int[] weights = new int[6];
            for (int house = 0; house < 6; house++) {
                weights[house] = chance.nextInt(4) == 0 ? 0 : chance.nextInt(most + 1);
            }
            weights[chance.nextInt(6)] = 1 + chance.nextInt(most);
            int cents = chance.nextBoolean() ? chance.nextInt(100_000_001) : chance.nextInt(50);
            shares(weighing(weights), cents, PlainBooks.shares(weights, cents));
        }
    }
}
