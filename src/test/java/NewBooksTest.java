/** Promise 1: a new object has no budgets and an empty tariff, and all else is at its first value. */
public final class NewBooksTest {
    public static void main(String[] args) {
        budgetsAreNone();
        allKindsAreFree();
        nothingIsThere();
        objectsShareNothing();
        Check.finish("NewBooksTest");
    }

    private static void budgetsAreNone() {
        CostBooks books = new CostBooks();
        for (int year = 0; year < 5; year++) {
            for (int kind = 0; kind < 10; kind++) {
                for (int what = 0; what < 4; what++) {
                    int y = year;
                    int k = kind;
                    int w = what;
                    Check.answers("new budgetAt " + y + " " + k + " " + w, 0, () -> books.budgetAt(y, k, w));
                }
            }
        }
    }

    private static void allKindsAreFree() {
        CostBooks books = new CostBooks();
        for (int kind = 0; kind < 10; kind++) {
            int k = kind;
            Check.refuses("new bill of kind " + k, Check.STATE, () -> books.bill(k, 60, 100, 0));
        }
    }

    private static void nothingIsThere() {
        CostBooks books = new CostBooks();
        Check.answers("new place", -1, books::place);
        Check.refuses("new invoice", Check.UNKNOWN, () -> books.invoice(0, 0));
        Check.refuses("new cancel", Check.UNKNOWN, () -> books.cancel(0));
        Check.refuses("new pay", Check.UNKNOWN, () -> books.pay(0, 1));
        Check.refuses("new billAt", Check.UNKNOWN, () -> books.billAt(0, 0));
        Check.refuses("new use", Check.UNKNOWN, () -> books.use(0, 0, 0));
        Check.refuses("new share", Check.ARITHMETIC, () -> books.share(0, 1));
        Check.answers("new remind", 0, () -> books.remind(9_999));
        for (int account = 0; account < 10; account++) {
            for (int year = 0; year < 5; year++) {
                int a = account;
                int y = year;
                Check.answers("new balance " + a + " " + y, 0, () -> books.balance(a, y));
            }
        }
        Check.answers("new batch", 1, () -> books.row(0, 5));
        Check.answers("new tape", 1, () -> books.sign('1', 1));
        Check.answers("new years are open", 0, () -> new CostBooks().post(0));
    }

    private static void objectsShareNothing() {
        CostBooks one = Check.withTariff("1:5+5;");
        CostBooks other = new CostBooks();
        one.budget(0, 0, 100);
        one.order(0, 0, 50);
        one.bill(1, 0, 0, 0);
        one.weight(0, 1);
        one.grant(0, 1);
        one.band(0);
        Check.answers("other budget", 0, () -> other.budgetAt(0, 0, 0));
        Check.refuses("other tariff", Check.STATE, () -> other.bill(1, 0, 0, 0));
        Check.refuses("other order", Check.UNKNOWN, () -> other.cancel(0));
        Check.refuses("other weight", Check.ARITHMETIC, () -> other.share(0, 1));
        Check.refuses("other grant", Check.UNKNOWN, () -> other.use(0, 0, 0));
    }
}
