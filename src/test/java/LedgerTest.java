/** Promises 20 to 23: row, post, balance, close. */
public final class LedgerTest {
    public static void main(String[] args) {
        rowsArePosted();
        eightRows();
        rowRefusals();
        unevenBatch();
        emptyBatch();
        nextOpenYear();
        eachFirstOpenYear();
        unevenBatchForAClosedYear();
        allYearsClosed();
        fullBatchIsEmptyBehindPost();
        oneAccountAlone();
        unknownYearKeepsTheBatch();
        greatBalances();
        eachBalanceIsItsOwn();
        balanceRefusals();
        yearsCloseInOrder();
        openOrdersKeepAYearOpen();
        firstAndLastOrderKeepAYearOpen();
        closeRefusals();
        Check.finish("LedgerTest");
    }

    private static void rowsArePosted() {
        CostBooks books = new CostBooks();
        Check.answers("row 1", 1, () -> books.row(0, 100));
        Check.answers("row 2", 2, () -> books.row(9, -70));
        Check.answers("row 3", 3, () -> books.row(0, -30));
        Check.answers("not posted yet", 0, () -> books.balance(0, 2));
        Check.answers("posted", 2, () -> books.post(2));
        Check.answers("two rows of an account", 70, () -> books.balance(0, 2));
        Check.answers("the last account", -70, () -> books.balance(9, 2));
        Check.answers("another account", 0, () -> books.balance(1, 2));
        Check.answers("another year", 0, () -> books.balance(0, 3));
        Check.answers("the batch is empty", 1, () -> books.row(0, 1));
        books.row(9, -1);
        Check.answers("posted more", 2, () -> books.post(2));
        Check.answers("balances add up", 71, () -> books.balance(0, 2));
        Check.answers("balances add up", -71, () -> books.balance(9, 2));
    }

    private static void eightRows() {
        CostBooks books = new CostBooks();
        for (int i = 1; i <= 8; i++) {
            int many = i;
            Check.answers("row " + i, many, () -> books.row(many, many % 2 == 0 ? -5 : 5));
        }
        Check.refuses("9th row", Check.NO_ROOM, () -> books.row(0, 0));
        Check.refuses("range before room", Check.RANGE, () -> books.row(0, 100_000_001));
        Check.refuses("unknown before room", Check.UNKNOWN, () -> books.row(10, 0));
        Check.answers("posted", 4, () -> books.post(4));
        for (int i = 1; i <= 8; i++) {
            int account = i;
            Check.answers("balance of " + i, i % 2 == 0 ? -5 : 5, () -> books.balance(account, 4));
        }
    }

    private static void rowRefusals() {
        CostBooks books = new CostBooks();
        for (int bad : new int[] {Integer.MIN_VALUE, -1, 10, Integer.MAX_VALUE}) {
            Check.refuses("row of " + bad, Check.UNKNOWN, () -> books.row(bad, 100_000_001));
        }
        for (int bad : new int[] {Integer.MIN_VALUE, -100_000_001, 100_000_001, Integer.MAX_VALUE}) {
            Check.refuses("row cents " + bad, Check.RANGE, () -> books.row(0, bad));
        }
        Check.answers("the most cents", 1, () -> books.row(0, 100_000_000));
        Check.answers("the least cents", 2, () -> books.row(1, -100_000_000));
        Check.answers("no cents", 3, () -> books.row(1, 0));
        Check.answers("posted", 0, () -> books.post(0));
    }

    private static void unevenBatch() {
        CostBooks books = new CostBooks();
        books.row(0, 100);
        books.row(1, -99);
        Check.refuses("one cent above zero", Check.STATE, () -> books.post(0));
        Check.answers("nothing posted", 0, () -> books.balance(0, 0));
        Check.answers("the batch is empty", 1, () -> books.row(0, 100));
        books.row(1, -101);
        Check.refuses("one cent below zero", Check.STATE, () -> books.post(0));
        Check.answers("nothing posted", 0, () -> books.balance(1, 0));
        Check.answers("an empty batch is posted then", 0, () -> books.post(0));
    }

    private static void emptyBatch() {
        CostBooks books = new CostBooks();
        for (int year = 0; year < 5; year++) {
            int y = year;
            Check.answers("empty batch to " + year, y, () -> books.post(y));
        }
    }

    private static void nextOpenYear() {
        CostBooks books = new CostBooks();
        books.close(0);
        books.close(1);
        books.row(0, 5);
        books.row(1, -5);
        Check.answers("year 0 is closed", 2, () -> books.post(0));
        Check.answers("balance of the next open one", 5, () -> books.balance(0, 2));
        Check.answers("balance of the closed one", 0, () -> books.balance(0, 0));
        books.row(0, 6);
        books.row(1, -6);
        Check.answers("year 1 is closed", 2, () -> books.post(1));
        books.row(0, 7);
        books.row(1, -7);
        Check.answers("year 3 is open", 3, () -> books.post(3));
        Check.answers("balance of 2", 11, () -> books.balance(0, 2));
        Check.answers("balance of 3", -7, () -> books.balance(1, 3));
        Check.answers("balance of 4", 0, () -> books.balance(1, 4));
    }

    private static void eachFirstOpenYear() {
        CostBooks books = new CostBooks();
        for (int open = 0; open < 5; open++) {
            for (int year = 0; year < 5; year++) {
                int y = year;
                books.row(0, 1);
                books.row(9, -1);
                Check.answers("to " + y + " when " + open + " is open", Math.max(y, open), () -> books.post(y));
            }
            books.close(open);
        }
        // Year 0 got one row; each later one its own of each round, and those of the closed years before it.
        int[] due = {1, 3, 5, 7, 9};
        for (int year = 0; year < 5; year++) {
            int y = year;
            Check.answers("balance in " + y, due[y], () -> books.balance(0, y));
            Check.answers("balance in " + y, -due[y], () -> books.balance(9, y));
        }
    }

    private static void unevenBatchForAClosedYear() {
        CostBooks books = new CostBooks();
        books.close(0);
        books.row(0, 1);
        Check.refuses("uneven", Check.STATE, () -> books.post(0));
        Check.answers("nothing in the closed year", 0, () -> books.balance(0, 0));
        Check.answers("nothing in the next", 0, () -> books.balance(0, 1));
        Check.answers("the batch is empty", 1, () -> books.row(0, 1));
    }

    private static void fullBatchIsEmptyBehindPost() {
        CostBooks books = new CostBooks();
        for (int round = 0; round < 3; round++) {
            for (int i = 1; i <= 8; i++) {
                int many = i;
                int cents = round == 1 && i == 8 ? 1 : 0;
                Check.answers("row " + i, many, () -> books.row(0, cents));
            }
            Check.refuses("no row 9", Check.NO_ROOM, () -> books.row(0, 0));
            if (round == 1) {
                Check.refuses("uneven by its last row", Check.STATE, () -> books.post(0));
            } else {
                Check.answers("even", 0, () -> books.post(0));
            }
        }
        Check.answers("room again", 1, () -> books.row(0, 0));
    }

    private static void oneAccountAlone() {
        CostBooks books = new CostBooks();
        books.row(6, 100_000_000);
        books.row(6, -100_000_000);
        Check.answers("one account to itself", 3, () -> books.post(3));
        Check.answers("no balance", 0, () -> books.balance(6, 3));
        for (int i = 0; i < 7; i++) {
            books.row(6, -1);
        }
        books.row(6, 8);
        Check.refuses("a cent too much", Check.STATE, () -> books.post(3));
        Check.answers("no balance", 0, () -> books.balance(6, 3));
    }

    private static void allYearsClosed() {
        CostBooks books = new CostBooks();
        books.row(0, 5);
        books.row(1, -5);
        books.post(4);
        for (int year = 0; year < 5; year++) {
            books.close(year);
        }
        for (int year = 0; year < 5; year++) {
            int y = year;
            Check.answers("row", 1, () -> books.row(0, 5));
            Check.answers("row", 2, () -> books.row(1, -5));
            Check.refuses("post to " + year, Check.STATE, () -> books.post(y));
        }
        Check.answers("the batch is empty", 1, () -> books.row(0, 5));
        Check.answers("the balance of a closed year", 5, () -> books.balance(0, 4));
        Check.refuses("an empty batch too", Check.STATE, () -> books.post(4));
    }

    private static void unknownYearKeepsTheBatch() {
        CostBooks books = new CostBooks();
        books.row(0, 5);
        books.row(1, -5);
        for (int bad : Check.OUTSIDE_ALL) {
            Check.refuses("post to " + bad, Check.UNKNOWN, () -> books.post(bad));
        }
        Check.refuses("post to 5", Check.UNKNOWN, () -> books.post(5));
        Check.answers("the batch is as before", 3, () -> books.row(2, 0));
        Check.answers("posted", 0, () -> books.post(0));
        Check.answers("balance", 5, () -> books.balance(0, 0));
    }

    private static void greatBalances() {
        CostBooks books = new CostBooks();
        for (int i = 0; i < 40; i++) {
            for (int pair = 0; pair < 4; pair++) {
                books.row(3, 100_000_000);
                books.row(4, -100_000_000);
            }
            books.post(1);
        }
        Check.answers("more than an int", 16_000_000_000L, () -> books.balance(3, 1));
        Check.answers("less than an int", -16_000_000_000L, () -> books.balance(4, 1));
        for (int i = 0; i < 8; i++) {
            books.row(3, 100_000_000);
        }
        Check.refuses("8 times the most", Check.STATE, () -> books.post(1));
    }

    private static void eachBalanceIsItsOwn() {
        CostBooks books = new CostBooks();
        for (int year = 0; year < 5; year++) {
            for (int account = 1; account < 10; account++) {
                books.row(account, 100 * account + year);
                books.row(0, -100 * account - year);
                books.post(year);
            }
        }
        for (int year = 0; year < 5; year++) {
            int y = year;
            for (int account = 1; account < 10; account++) {
                int a = account;
                Check.answers("balance " + a + " in " + y, 100L * a + y, () -> books.balance(a, y));
            }
            Check.answers("balance 0 in " + y, -4_500L - 9 * y, () -> books.balance(0, y));
        }
    }

    private static void balanceRefusals() {
        CostBooks books = new CostBooks();
        for (int bad : Check.OUTSIDE_ALL) {
            Check.refuses("balance of " + bad, Check.UNKNOWN, () -> books.balance(bad, 0));
            Check.refuses("balance in " + bad, Check.UNKNOWN, () -> books.balance(0, bad));
        }
        Check.refuses("balance of 10", Check.UNKNOWN, () -> books.balance(10, 0));
        Check.refuses("balance in 5", Check.UNKNOWN, () -> books.balance(0, 5));
    }

    private static void yearsCloseInOrder() {
        CostBooks books = new CostBooks();
        for (int year = 0; year < 5; year++) {
            int y = year;
            for (int later = year + 1; later < 5; later++) {
                int l = later;
                Check.refuses("a year before is open", Check.STATE, () -> books.close(l));
            }
            Check.does("close " + year, () -> books.close(y));
            for (int earlier = 0; earlier <= year; earlier++) {
                int e = earlier;
                Check.refuses("closed already", Check.STATE, () -> books.close(e));
            }
        }
    }

    private static void openOrdersKeepAYearOpen() {
        CostBooks books = new CostBooks();
        books.budget(0, 9, 100);
        books.budget(1, 0, 100);
        books.order(0, 9, 10);
        books.order(1, 0, 10);
        books.order(0, 3, 0);
        Check.refuses("two open orders", Check.STATE, () -> books.close(0));
        books.invoice(0, 10);
        Check.refuses("an open order of nothing", Check.STATE, () -> books.close(0));
        Check.does("year 0 is open still", () -> books.budget(0, 9, 99));
        books.cancel(2);
        Check.does("an open order of another year", () -> books.close(0));
        Check.refuses("its own open order", Check.STATE, () -> books.close(1));
        books.cancel(1);
        Check.does("cancelled", () -> books.close(1));
        Check.answers("spent stays", 10, () -> books.budgetAt(0, 9, 2));
    }

    private static void firstAndLastOrderKeepAYearOpen() {
        CostBooks books = new CostBooks();
        for (int i = 0; i < 60; i++) {
            books.order(0, 0, 0);
        }
        for (int i = 1; i < 59; i++) {
            books.cancel(i);
        }
        books.cancel(59);
        Check.refuses("the first order is open", Check.STATE, () -> books.close(0));
        books.cancel(0);
        Check.does("none of 60 orders is open", () -> books.close(0));
        CostBooks other = new CostBooks();
        for (int i = 0; i < 60; i++) {
            other.order(0, 0, 0);
        }
        for (int i = 0; i < 59; i++) {
            other.cancel(i);
        }
        Check.refuses("the last order is open", Check.STATE, () -> other.close(0));
    }

    private static void closeRefusals() {
        CostBooks books = new CostBooks();
        for (int bad : Check.OUTSIDE_ALL) {
            Check.refuses("close " + bad, Check.UNKNOWN, () -> books.close(bad));
        }
        Check.refuses("close 5", Check.UNKNOWN, () -> books.close(5));
        for (int year = 0; year < 5; year++) {
            books.close(year);
        }
        Check.refuses("close 5 behind the last", Check.UNKNOWN, () -> books.close(5));
    }
}
