/** Promises 18 and 19: grant, use. */
public final class GrantTest {
    public static void main(String[] args) {
        uses();
        everyPurpose();
        greatestGrant();
        twentyGrants();
        grantRefusals();
        useRefusals();
        Check.finish("GrantTest");
    }

    private static void uses() {
        CostBooks books = new CostBooks();
        Check.answers("a grant", 0, () -> books.grant(3, 500));
        Check.answers("of the same purpose", 1, () -> books.grant(3, 100_000_000));
        Check.answers("of nothing", 2, () -> books.grant(9, 0));
        Check.answers("some", 300, () -> books.use(0, 3, 200));
        Check.refuses("another purpose", Check.STATE, () -> books.use(0, 4, 1));
        Check.refuses("another purpose, of nothing", Check.STATE, () -> books.use(0, 4, 0));
        Check.refuses("more than is left", Check.STATE, () -> books.use(0, 3, 301));
        Check.answers("nothing", 300, () -> books.use(0, 3, 0));
        Check.answers("the rest", 0, () -> books.use(0, 3, 300));
        Check.refuses("nothing is left", Check.STATE, () -> books.use(0, 3, 1));
        Check.answers("the other grant", 0, () -> books.use(1, 3, 100_000_000));
        Check.answers("nothing of nothing", 0, () -> books.use(2, 9, 0));
        Check.refuses("some of nothing", Check.STATE, () -> books.use(2, 9, 1));
    }

    private static void everyPurpose() {
        CostBooks books = new CostBooks();
        for (int purpose = 0; purpose < 10; purpose++) {
            books.grant(purpose, 10);
        }
        for (int grant = 0; grant < 10; grant++) {
            for (int purpose = 0; purpose < 10; purpose++) {
                int g = grant;
                int p = purpose;
                if (g == p) {
                    Check.answers("its purpose " + p, 9, () -> books.use(g, p, 1));
                } else {
                    Check.refuses("grant " + g + " for " + p, Check.STATE, () -> books.use(g, p, 1));
                }
            }
        }
    }

    private static void greatestGrant() {
        CostBooks books = new CostBooks();
        books.grant(0, 100_000_000);
        Check.refuses("above cents", Check.RANGE, () -> books.use(0, 0, 100_000_001));
        Check.answers("a cent stays", 1, () -> books.use(0, 0, 99_999_999));
        Check.refuses("two of one", Check.STATE, () -> books.use(0, 0, 2));
        Check.refuses("the most of one", Check.STATE, () -> books.use(0, 0, 100_000_000));
        Check.answers("the last cent", 0, () -> books.use(0, 0, 1));
        Check.answers("nothing of a used up grant", 0, () -> books.use(0, 0, 0));
    }

    private static void twentyGrants() {
        CostBooks books = new CostBooks();
        for (int i = 0; i < 20; i++) {
            int number = i;
            Check.answers("grant " + i, number, () -> books.grant(number % 10, number));
        }
        Check.refuses("21st grant", Check.NO_ROOM, () -> books.grant(0, 0));
        Check.refuses("range before room", Check.RANGE, () -> books.grant(0, -1));
        Check.refuses("unknown before room", Check.UNKNOWN, () -> books.grant(-1, 0));
        Check.refuses("no grant 20", Check.UNKNOWN, () -> books.use(20, 0, 0));
        for (int i = 0; i < 20; i++) {
            int number = i;
            Check.answers("left of " + i, number, () -> books.use(number, number % 10, 0));
        }
    }

    private static void grantRefusals() {
        CostBooks books = new CostBooks();
        for (int bad : Check.OUTSIDE_ALL) {
            Check.refuses("grant purpose " + bad, Check.UNKNOWN, () -> books.grant(bad, -1));
            Check.refuses("grant cents " + bad, Check.RANGE, () -> books.grant(0, bad));
        }
        Check.refuses("grant purpose 10", Check.UNKNOWN, () -> books.grant(10, 0));
        Check.refuses("grant cents", Check.RANGE, () -> books.grant(0, 100_000_001));
        Check.answers("refused grants took no number", 0, () -> books.grant(0, 1));
    }

    private static void useRefusals() {
        CostBooks books = new CostBooks();
        books.grant(3, 500);
        for (int bad : Check.OUTSIDE_ALL) {
            Check.refuses("use of " + bad, Check.UNKNOWN, () -> books.use(bad, 3, -1));
            Check.refuses("use purpose " + bad, Check.UNKNOWN, () -> books.use(0, bad, -1));
            Check.refuses("use cents " + bad, Check.RANGE, () -> books.use(0, 3, bad));
        }
        Check.refuses("use of 1", Check.UNKNOWN, () -> books.use(1, 3, 0));
        Check.refuses("use purpose 10", Check.UNKNOWN, () -> books.use(0, 10, 0));
        Check.refuses("use cents", Check.RANGE, () -> books.use(0, 3, 100_000_001));
        Check.refuses("range before state", Check.RANGE, () -> books.use(0, 4, -1));
        Check.answers("all is left", 500, () -> books.use(0, 3, 0));
    }
}
