/** Promises 4 to 7: band, order, invoice, cancel. */
public final class OrderTest {
    public static void main(String[] args) {
        ordersHoldWhatIsFree();
        orderRefusals();
        closedYears();
        sixtyOrders();
        bandAtFirst();
        bandEdges();
        bandRefusals();
        everyBandOfAnOrder();
        orderOfNothing();
        greatestInvoice();
        invoiceMovesHeldToSpent();
        invoiceNeedsFreeCents();
        lowerInvoiceNeedsNothingFree();
        invoiceRefusals();
        cancelFrees();
        cancelRefusals();
        Check.finish("OrderTest");
    }

    private static CostBooks withBudget(int cents) {
        CostBooks books = new CostBooks();
        books.budget(1, 2, cents);
        return books;
    }

    private static void ordersHoldWhatIsFree() {
        CostBooks books = withBudget(100);
        Check.answers("first order", 0, () -> books.order(1, 2, 60));
        Check.refuses("more than free", Check.STATE, () -> books.order(1, 2, 41));
        Check.answers("held after a refusal", 60, () -> books.budgetAt(1, 2, 1));
        Check.answers("all that is free", 1, () -> books.order(1, 2, 40));
        Check.answers("held", 100, () -> books.budgetAt(1, 2, 1));
        Check.answers("an order of nothing", 2, () -> books.order(1, 2, 0));
        Check.refuses("nothing is free", Check.STATE, () -> books.order(1, 2, 1));
        Check.answers("nothing of no budget", 3, () -> books.order(0, 0, 0));
        CostBooks rich = withBudget(100_000_000);
        Check.answers("the most cents", 0, () -> rich.order(1, 2, 100_000_000));
    }

    private static void orderRefusals() {
        CostBooks books = withBudget(100);
        for (int bad : Check.OUTSIDE_ALL) {
            Check.refuses("order year " + bad, Check.UNKNOWN, () -> books.order(bad, 0, 0));
            Check.refuses("order kind " + bad, Check.UNKNOWN, () -> books.order(0, bad, 0));
            Check.refuses("order cents " + bad, Check.RANGE, () -> books.order(0, 0, bad));
        }
        Check.refuses("order year 5", Check.UNKNOWN, () -> books.order(5, 0, -1));
        Check.refuses("order kind 10", Check.UNKNOWN, () -> books.order(0, 10, -1));
        Check.refuses("order cents", Check.RANGE, () -> books.order(1, 2, 100_000_001));
        books.close(0);
        Check.refuses("order of a closed year", Check.STATE, () -> books.order(0, 0, 0));
        Check.refuses("range before closed", Check.RANGE, () -> books.order(0, 0, -1));
        books.close(1);
        Check.refuses("order of a closed year with free cents", Check.STATE, () -> books.order(1, 2, 1));
        Check.answers("refused orders took no number", 0, () -> books.order(2, 0, 0));
    }

    private static void closedYears() {
        CostBooks books = new CostBooks();
        for (int year = 0; year < 5; year++) {
            int y = year;
            books.budget(year, 0, 10);
            Check.answers("order in the open year " + year, year, () -> books.order(y, 0, 10));
            books.cancel(year);
            books.close(year);
            Check.refuses("order of nothing in " + year, Check.STATE, () -> books.order(y, 9, 0));
            Check.refuses("order of what is free in " + year, Check.STATE, () -> books.order(y, 0, 10));
            Check.refuses("a cancelled order in " + year, Check.STATE, () -> books.invoice(y, 10));
        }
    }

    private static void sixtyOrders() {
        CostBooks books = withBudget(1_000);
        for (int i = 0; i < 60; i++) {
            int number = i;
            Check.answers("order " + i, number, () -> books.order(1, 2, 1));
        }
        Check.refuses("61st order", Check.NO_ROOM, () -> books.order(1, 2, 1));
        Check.answers("held by 60", 60, () -> books.budgetAt(1, 2, 1));
        Check.refuses("state before room", Check.STATE, () -> books.order(1, 2, 941));
        Check.refuses("range before room", Check.RANGE, () -> books.order(1, 2, -1));
        Check.refuses("no order 60", Check.UNKNOWN, () -> books.cancel(60));
        Check.does("the last order", () -> books.cancel(59));
        Check.refuses("a cancelled order makes no room", Check.NO_ROOM, () -> books.order(1, 2, 1));
    }

    private static void bandAtFirst() {
        CostBooks books = withBudget(10_000);
        books.order(1, 2, 1_009);
        Check.refuses("above", Check.STATE, () -> books.invoice(0, 1_110));
        Check.refuses("below", Check.STATE, () -> books.invoice(0, 908));
        Check.does("the band's lower edge", () -> books.invoice(0, 909));
        books.order(1, 2, 1_009);
        Check.does("the band's upper edge", () -> books.invoice(1, 1_109));
        books.order(1, 2, 9);
        Check.refuses("rounded down to nothing", Check.STATE, () -> books.invoice(2, 10));
        Check.refuses("rounded down to nothing", Check.STATE, () -> books.invoice(2, 8));
        Check.does("the order itself", () -> books.invoice(2, 9));
    }

    private static void bandEdges() {
        CostBooks books = withBudget(100_000_000);
        books.order(1, 2, 1_000);
        Check.does("no band", () -> books.band(0));
        Check.refuses("no band, one above", Check.STATE, () -> books.invoice(0, 1_001));
        Check.refuses("no band, one below", Check.STATE, () -> books.invoice(0, 999));
        Check.does("the whole band", () -> books.band(1_000));
        Check.refuses("above the whole band", Check.STATE, () -> books.invoice(0, 2_001));
        Check.does("the whole band's edge", () -> books.invoice(0, 2_000));
        books.order(1, 2, 1_000);
        Check.does("an invoice of nothing", () -> books.invoice(1, 0));
        books.order(1, 2, 90_000_000);
        books.band(37);
        Check.refuses("beyond an int's product", Check.STATE, () -> books.invoice(2, 93_330_001));
        Check.does("an edge beyond an int's product", () -> books.invoice(2, 93_330_000));
        books.order(1, 2, 999);
        books.band(1);
        Check.refuses("999 thousandths of a cent", Check.STATE, () -> books.invoice(3, 998));
        books.band(2);
        Check.does("the band of now counts", () -> books.invoice(3, 998));
    }

    private static void bandRefusals() {
        CostBooks books = withBudget(1_000);
        books.order(1, 2, 100);
        for (int bad : Check.OUTSIDE_ALL) {
            Check.refuses("band " + bad, Check.RANGE, () -> books.band(bad));
        }
        Check.refuses("band 1001", Check.RANGE, () -> books.band(1_001));
        Check.refuses("the band is as before", Check.STATE, () -> books.invoice(0, 111));
        Check.does("the band is as before", () -> books.invoice(0, 110));
    }

    private static void everyBandOfAnOrder() {
        for (int thousandths = 0; thousandths <= 1_000; thousandths++) {
            int band = 1_999 * thousandths / 1_000;
            CostBooks books = withBudget(10_000);
            books.band(thousandths);
            books.order(1, 2, 1_999);
            books.order(1, 2, 1_999);
            String what = thousandths + " thousandths";
            Check.refuses(what + ", one above", Check.STATE, () -> books.invoice(0, 1_999 + band + 1));
            // Below the whole band there is no cent left to tell: -1 is outside the range.
            Check.refuses(what + ", one below", band == 1_999 ? Check.RANGE : Check.STATE,
                    () -> books.invoice(0, 1_999 - band - 1));
            Check.does(what + ", upper edge", () -> books.invoice(0, 1_999 + band));
            Check.does(what + ", lower edge", () -> books.invoice(1, 1_999 - band));
            Check.answers(what + ", both spent", 3_998, () -> books.budgetAt(1, 2, 2));
        }
    }

    private static void orderOfNothing() {
        CostBooks books = withBudget(10);
        books.band(1_000);
        books.order(1, 2, 0);
        Check.refuses("a cent for nothing", Check.STATE, () -> books.invoice(0, 1));
        Check.does("nothing for nothing", () -> books.invoice(0, 0));
        Check.refuses("once", Check.STATE, () -> books.invoice(0, 0));
        Check.refuses("not open", Check.STATE, () -> books.cancel(0));
        Check.answers("nothing spent", 0, () -> books.budgetAt(1, 2, 2));
    }

    private static void greatestInvoice() {
        CostBooks books = withBudget(100_000_000);
        books.band(1_000);
        books.order(1, 2, 50_000_000);
        Check.refuses("above cents", Check.RANGE, () -> books.invoice(0, 100_000_001));
        Check.does("twice the order, all that is free", () -> books.invoice(0, 100_000_000));
        Check.answers("all spent", 100_000_000, () -> books.budgetAt(1, 2, 2));
        Check.answers("nothing free", 0, () -> books.budgetAt(1, 2, 3));
        CostBooks other = withBudget(100_000_000);
        other.band(1_000);
        other.order(1, 2, 100_000_000);
        Check.does("the greatest order for nothing", () -> other.invoice(0, 0));
        Check.answers("all free", 100_000_000, () -> other.budgetAt(1, 2, 3));
    }

    private static void lowerInvoiceNeedsNothingFree() {
        CostBooks books = withBudget(100);
        books.order(1, 2, 100);
        Check.answers("nothing free", 0, () -> books.budgetAt(1, 2, 3));
        Check.refuses("a cent more", Check.STATE, () -> books.invoice(0, 101));
        Check.does("a cent less", () -> books.invoice(0, 99));
        Check.answers("a cent is free", 1, () -> books.budgetAt(1, 2, 3));
        Check.answers("and may be ordered", 1, () -> books.order(1, 2, 1));
    }

    private static void invoiceMovesHeldToSpent() {
        CostBooks books = withBudget(1_000);
        books.order(1, 2, 500);
        books.order(1, 2, 200);
        Check.does("a lower invoice", () -> books.invoice(0, 480));
        Check.answers("held", 200, () -> books.budgetAt(1, 2, 1));
        Check.answers("spent", 480, () -> books.budgetAt(1, 2, 2));
        Check.answers("free", 320, () -> books.budgetAt(1, 2, 3));
        Check.does("a higher invoice", () -> books.invoice(1, 220));
        Check.answers("held", 0, () -> books.budgetAt(1, 2, 1));
        Check.answers("spent", 700, () -> books.budgetAt(1, 2, 2));
        Check.answers("free", 300, () -> books.budgetAt(1, 2, 3));
        Check.refuses("invoiced already", Check.STATE, () -> books.invoice(0, 480));
        Check.answers("spent once", 700, () -> books.budgetAt(1, 2, 2));
    }

    private static void invoiceNeedsFreeCents() {
        CostBooks books = withBudget(1_005);
        books.order(1, 2, 100);
        books.order(1, 2, 900);
        Check.refuses("more than free", Check.STATE, () -> books.invoice(0, 106));
        Check.answers("still held", 1_000, () -> books.budgetAt(1, 2, 1));
        Check.does("just what is free", () -> books.invoice(0, 105));
        Check.answers("nothing free", 0, () -> books.budgetAt(1, 2, 3));
        Check.refuses("nothing free", Check.STATE, () -> books.invoice(1, 901));
        Check.does("the order itself", () -> books.invoice(1, 900));
        Check.answers("all spent", 1_005, () -> books.budgetAt(1, 2, 2));
    }

    private static void invoiceRefusals() {
        CostBooks books = withBudget(1_000);
        books.order(1, 2, 100);
        for (int bad : Check.OUTSIDE_ALL) {
            Check.refuses("invoice of " + bad, Check.UNKNOWN, () -> books.invoice(bad, -1));
            Check.refuses("invoice cents " + bad, Check.RANGE, () -> books.invoice(0, bad));
        }
        Check.refuses("invoice of 1", Check.UNKNOWN, () -> books.invoice(1, 0));
        Check.refuses("invoice cents", Check.RANGE, () -> books.invoice(0, 100_000_001));
        books.cancel(0);
        Check.refuses("cancelled", Check.STATE, () -> books.invoice(0, 100));
        Check.refuses("range before state", Check.RANGE, () -> books.invoice(0, -1));
        Check.answers("nothing spent", 0, () -> books.budgetAt(1, 2, 2));
    }

    private static void cancelFrees() {
        CostBooks books = withBudget(1_000);
        books.order(1, 2, 400);
        books.order(1, 2, 600);
        Check.does("cancel", () -> books.cancel(0));
        Check.answers("held", 600, () -> books.budgetAt(1, 2, 1));
        Check.answers("spent", 0, () -> books.budgetAt(1, 2, 2));
        Check.answers("free", 400, () -> books.budgetAt(1, 2, 3));
        Check.answers("the next number", 2, () -> books.order(1, 2, 400));
    }

    private static void cancelRefusals() {
        CostBooks books = withBudget(1_000);
        books.order(1, 2, 400);
        books.order(1, 2, 300);
        for (int bad : Check.OUTSIDE_ALL) {
            Check.refuses("cancel of " + bad, Check.UNKNOWN, () -> books.cancel(bad));
        }
        Check.refuses("cancel of 2", Check.UNKNOWN, () -> books.cancel(2));
        books.cancel(0);
        Check.refuses("cancelled already", Check.STATE, () -> books.cancel(0));
        books.invoice(1, 300);
        Check.refuses("invoiced already", Check.STATE, () -> books.cancel(1));
        Check.answers("held", 0, () -> books.budgetAt(1, 2, 1));
        Check.answers("spent", 300, () -> books.budgetAt(1, 2, 2));
    }
}
