/** Promises 2 and 3 (budget, budgetAt) and 24 (forecast). */
public final class BudgetTest {
    public static void main(String[] args) {
        totalsAreKept();
        heldSpentAndFree();
        totalStaysAboveHeldAndSpent();
        heldAloneAndSpentAlone();
        fullBudget();
        everyYearAndKindIsItsOwn();
        closedYearKeepsItsBudgets();
        wrongNumbers();
        refusalsInOrder();
        forecasts();
        forecastRefusals();
        Check.finish("BudgetTest");
    }

    private static void totalsAreKept() {
        CostBooks books = new CostBooks();
        for (int year = 0; year < 5; year++) {
            for (int kind = 0; kind < 10; kind++) {
                books.budget(year, kind, 1_000 * year + kind);
            }
        }
        for (int year = 0; year < 5; year++) {
            for (int kind = 0; kind < 10; kind++) {
                int y = year;
                int k = kind;
                Check.answers("total " + y + " " + k, 1_000L * y + k, () -> books.budgetAt(y, k, 0));
                Check.answers("free " + y + " " + k, 1_000L * y + k, () -> books.budgetAt(y, k, 3));
            }
        }
        Check.does("the least total", () -> books.budget(4, 9, 0));
        Check.answers("the least total", 0, () -> books.budgetAt(4, 9, 0));
        Check.does("the most cents", () -> books.budget(4, 9, 100_000_000));
        Check.answers("the most cents", 100_000_000, () -> books.budgetAt(4, 9, 0));
    }

    private static void heldSpentAndFree() {
        CostBooks books = new CostBooks();
        books.budget(3, 7, 1_000);
        books.order(3, 7, 300);
        books.order(3, 7, 200);
        books.invoice(1, 190);
        Check.answers("total", 1_000, () -> books.budgetAt(3, 7, 0));
        Check.answers("held", 300, () -> books.budgetAt(3, 7, 1));
        Check.answers("spent", 190, () -> books.budgetAt(3, 7, 2));
        Check.answers("free", 510, () -> books.budgetAt(3, 7, 3));
        Check.answers("another kind", 0, () -> books.budgetAt(3, 8, 1));
        Check.answers("another year", 0, () -> books.budgetAt(2, 7, 2));
    }

    private static void totalStaysAboveHeldAndSpent() {
        CostBooks books = new CostBooks();
        books.budget(0, 0, 1_000);
        books.order(0, 0, 300);
        books.order(0, 0, 200);
        books.invoice(1, 190);
        Check.refuses("less than held and spent", Check.STATE, () -> books.budget(0, 0, 489));
        Check.answers("refused total", 1_000, () -> books.budgetAt(0, 0, 0));
        Check.does("just held and spent", () -> books.budget(0, 0, 490));
        Check.answers("nothing free", 0, () -> books.budgetAt(0, 0, 3));
    }

    private static void heldAloneAndSpentAlone() {
        CostBooks books = new CostBooks();
        books.budget(0, 0, 1_000);
        books.order(0, 0, 300);
        Check.refuses("less than held", Check.STATE, () -> books.budget(0, 0, 299));
        Check.refuses("0 is less than held", Check.STATE, () -> books.budget(0, 0, 0));
        Check.does("just held", () -> books.budget(0, 0, 300));
        books.invoice(0, 300);
        Check.refuses("less than spent", Check.STATE, () -> books.budget(0, 0, 299));
        Check.does("just spent", () -> books.budget(0, 0, 300));
        Check.does("more again", () -> books.budget(0, 0, 301));
        Check.answers("free", 1, () -> books.budgetAt(0, 0, 3));
        books.order(0, 0, 1);
        books.cancel(1);
        Check.does("what is cancelled is not held", () -> books.budget(0, 0, 300));
    }

    private static void fullBudget() {
        CostBooks books = new CostBooks();
        books.budget(4, 9, 100_000_000);
        books.order(4, 9, 60_000_000);
        books.order(4, 9, 40_000_000);
        books.invoice(0, 60_000_000);
        int[] due = {100_000_000, 40_000_000, 60_000_000, 0};
        for (int i = 0; i < due.length; i++) {
            int what = i;
            Check.answers("full budget " + i, due[i], () -> books.budgetAt(4, 9, what));
        }
        Check.refuses("a cent less than all", Check.STATE, () -> books.budget(4, 9, 99_999_999));
        Check.does("all", () -> books.budget(4, 9, 100_000_000));
        Check.refuses("a cent more than cents are", Check.RANGE, () -> books.budget(4, 9, 100_000_001));
    }

    private static void everyYearAndKindIsItsOwn() {
        CostBooks books = new CostBooks();
        for (int slot = 0; slot < 50; slot++) {
            books.budget(slot / 10, slot % 10, 1_000);
            books.order(slot / 10, slot % 10, 100 + slot);
            if (slot % 3 == 0) {
                books.invoice(slot, 100 + slot);
            }
        }
        for (int slot = 0; slot < 50; slot++) {
            int year = slot / 10;
            int kind = slot % 10;
            boolean isSpent = slot % 3 == 0;
            Check.answers("held " + slot, isSpent ? 0 : 100 + slot, () -> books.budgetAt(year, kind, 1));
            Check.answers("spent " + slot, isSpent ? 100 + slot : 0, () -> books.budgetAt(year, kind, 2));
            Check.answers("free " + slot, 900 - slot, () -> books.budgetAt(year, kind, 3));
            Check.answers("forecast " + slot, isSpent ? (100 + slot) * 73L : 0, () -> books.forecast(year, kind, 5));
        }
    }

    private static void closedYearKeepsItsBudgets() {
        CostBooks books = new CostBooks();
        books.budget(0, 4, 77);
        books.close(0);
        Check.refuses("budget of a closed year", Check.STATE, () -> books.budget(0, 4, 78));
        Check.refuses("the same budget of a closed year", Check.STATE, () -> books.budget(0, 4, 77));
        Check.answers("closed total", 77, () -> books.budgetAt(0, 4, 0));
        Check.does("the next year is open", () -> books.budget(1, 4, 78));
    }

    private static void wrongNumbers() {
        CostBooks books = new CostBooks();
        for (int bad : Check.OUTSIDE_ALL) {
            Check.refuses("budget year " + bad, Check.UNKNOWN, () -> books.budget(bad, 0, 0));
            Check.refuses("budget kind " + bad, Check.UNKNOWN, () -> books.budget(0, bad, 0));
            Check.refuses("budget cents " + bad, Check.RANGE, () -> books.budget(0, 0, bad));
            Check.refuses("budgetAt year " + bad, Check.UNKNOWN, () -> books.budgetAt(bad, 0, 0));
            Check.refuses("budgetAt kind " + bad, Check.UNKNOWN, () -> books.budgetAt(0, bad, 0));
            Check.refuses("budgetAt what " + bad, Check.UNKNOWN, () -> books.budgetAt(0, 0, bad));
        }
        Check.refuses("budget year 5", Check.UNKNOWN, () -> books.budget(5, 0, 0));
        Check.refuses("budget kind 10", Check.UNKNOWN, () -> books.budget(0, 10, 0));
        Check.refuses("budget cents", Check.RANGE, () -> books.budget(0, 0, 100_000_001));
        Check.refuses("budgetAt year 5", Check.UNKNOWN, () -> books.budgetAt(5, 0, 0));
        Check.refuses("budgetAt kind 10", Check.UNKNOWN, () -> books.budgetAt(0, 10, 0));
        Check.refuses("budgetAt what 4", Check.UNKNOWN, () -> books.budgetAt(0, 0, 4));
    }

    private static void refusalsInOrder() {
        CostBooks books = new CostBooks();
        books.close(0);
        Check.refuses("unknown before range", Check.UNKNOWN, () -> books.budget(0, 10, -1));
        Check.refuses("unknown year before range", Check.UNKNOWN, () -> books.budget(-1, 0, -1));
        Check.refuses("range before state", Check.RANGE, () -> books.budget(0, 0, -1));
    }

    private static void forecasts() {
        CostBooks books = new CostBooks();
        books.budget(2, 5, 100_000_000);
        books.order(2, 5, 100);
        Check.answers("held is not spent", 0, () -> books.forecast(2, 5, 1));
        books.invoice(0, 101);
        Check.answers("1 day", 36_865, () -> books.forecast(2, 5, 1));
        Check.answers("rounded down", 36_865 / 2, () -> books.forecast(2, 5, 2));
        Check.answers("364 days", 101, () -> books.forecast(2, 5, 364));
        Check.answers("365 days", 101, () -> books.forecast(2, 5, 365));
        for (int days = 1; days <= 365; days++) {
            int went = days;
            Check.answers("forecast of " + days + " days", 36_865 / days, () -> books.forecast(2, 5, went));
        }
        Check.answers("another kind", 0, () -> books.forecast(2, 4, 1));
        books.order(2, 5, 99_999_899);
        books.invoice(1, 99_999_899);
        Check.answers("more than an int", 36_500_000_000L, () -> books.forecast(2, 5, 1));
        Check.answers("more than an int, rounded", 12_166_666_666L, () -> books.forecast(2, 5, 3));
        books.close(0);
        books.close(1);
        books.close(2);
        Check.answers("of a closed year", 100_000_000, () -> books.forecast(2, 5, 365));
    }

    private static void forecastRefusals() {
        CostBooks books = new CostBooks();
        for (int bad : Check.OUTSIDE_ALL) {
            Check.refuses("forecast year " + bad, Check.UNKNOWN, () -> books.forecast(bad, 0, 0));
            Check.refuses("forecast kind " + bad, Check.UNKNOWN, () -> books.forecast(0, bad, 0));
            Check.refuses("forecast days " + bad, Check.RANGE, () -> books.forecast(0, 0, bad));
        }
        Check.refuses("forecast year 5", Check.UNKNOWN, () -> books.forecast(5, 0, 366));
        Check.refuses("forecast kind 10", Check.UNKNOWN, () -> books.forecast(0, 10, 366));
        Check.refuses("forecast 366 days", Check.RANGE, () -> books.forecast(0, 0, 366));
        Check.refuses("forecast 0 days", Check.ARITHMETIC, () -> books.forecast(4, 9, 0));
    }
}
