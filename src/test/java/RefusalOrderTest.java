/** Terms, "Refusals, in this order": calls that have two or more faults at once are refused for the first. */
public final class RefusalOrderTest {
    public static void main(String[] args) {
        budgetOfAClosedYear();
        orderWithAllFaults();
        orderOfAFullClosedYear();
        invoiceOfAClosedOrder();
        tapeThatIsFull();
        billWithAllFaults();
        paymentOfAPaidBill();
        shareWithoutWeights();
        grantWithoutRoom();
        useForAnotherPurpose();
        rowWithoutRoom();
        postOfAnUnevenBatch();
        closeOfNoYear();
        forecastOfNoDays();
        Check.finish("RefusalOrderTest");
    }

    private static void budgetOfAClosedYear() {
        CostBooks books = new CostBooks();
        books.budget(0, 1, 50);
        books.order(0, 1, 50);
        books.invoice(0, 50);
        books.close(0);
        Check.refuses("year, cents", Check.UNKNOWN, () -> books.budget(5, 1, 100_000_001));
        Check.refuses("kind, cents, closed", Check.UNKNOWN, () -> books.budget(0, 10, -1));
        Check.refuses("cents too small, closed", Check.RANGE, () -> books.budget(0, 1, -1));
        Check.refuses("cents too large, closed", Check.RANGE, () -> books.budget(0, 1, 100_000_001));
        Check.refuses("closed, less than spent", Check.STATE, () -> books.budget(0, 1, 49));
    }

    private static CostBooks withSixtyOrders(int year) {
        CostBooks books = new CostBooks();
        books.budget(year, 1, 60);
        for (int i = 0; i < 60; i++) {
            books.order(year, 1, 1);
        }
        return books;
    }

    private static void orderWithAllFaults() {
        CostBooks books = withSixtyOrders(0);
        Check.refuses("year, cents, room", Check.UNKNOWN, () -> books.order(5, 1, -1));
        Check.refuses("kind, cents, room", Check.UNKNOWN, () -> books.order(0, -1, 100_000_001));
        Check.refuses("year, room", Check.UNKNOWN, () -> books.order(-1, 1, 0));
        Check.refuses("cents too small, room", Check.RANGE, () -> books.order(0, 1, -1));
        Check.refuses("cents too large, free, room", Check.RANGE, () -> books.order(0, 1, 100_000_001));
        Check.refuses("free, room", Check.STATE, () -> books.order(0, 1, 1));
        Check.refuses("room alone", Check.NO_ROOM, () -> books.order(0, 1, 0));
        Check.refuses("room alone, of another year", Check.NO_ROOM, () -> books.order(4, 9, 0));
    }

    private static void orderOfAFullClosedYear() {
        CostBooks books = withSixtyOrders(0);
        for (int i = 0; i < 60; i++) {
            books.cancel(i);
        }
        books.close(0);
        Check.refuses("kind, closed, room", Check.UNKNOWN, () -> books.order(0, 10, 0));
        Check.refuses("cents, closed, room", Check.RANGE, () -> books.order(0, 1, -1));
        Check.refuses("closed, room", Check.STATE, () -> books.order(0, 1, 0));
        Check.refuses("room alone", Check.NO_ROOM, () -> books.order(1, 1, 0));
    }

    private static void invoiceOfAClosedOrder() {
        CostBooks books = new CostBooks();
        books.budget(0, 0, 100);
        books.order(0, 0, 10);
        books.cancel(0);
        Check.refuses("order, cents too small", Check.UNKNOWN, () -> books.invoice(1, -1));
        Check.refuses("order, cents too large", Check.UNKNOWN, () -> books.invoice(-1, 100_000_001));
        Check.refuses("cents too small, not open", Check.RANGE, () -> books.invoice(0, -1));
        Check.refuses("cents too large, not open", Check.RANGE, () -> books.invoice(0, 100_000_001));
        Check.refuses("not open, not within the band", Check.STATE, () -> books.invoice(0, 100));
    }

    private static void tapeThatIsFull() {
        CostBooks books = new CostBooks();
        for (int i = 0; i < 25; i++) {
            books.sign(0, 8);
        }
        Check.refuses("n too large, room", Check.RANGE, () -> books.sign(0, 9));
        Check.refuses("n too small", Check.RANGE, () -> books.sign(0, 0));
        Check.refuses("the largest n, room", Check.RANGE, () -> books.sign(0, Integer.MAX_VALUE));
        Check.refuses("room alone", Check.NO_ROOM, () -> books.sign(0, 8));
    }

    private static void billWithAllFaults() {
        CostBooks books = Check.withTariff("3:1+999999;");
        for (int i = 0; i < 60; i++) {
            books.bill(3, 0, 0, 0);
        }
        Check.refuses("kind, minutes, room", Check.UNKNOWN, () -> books.bill(10, -1, 0, 0));
        Check.refuses("kind, materials, room", Check.UNKNOWN, () -> books.bill(-1, 0, -1, 0));
        Check.refuses("kind, day, room", Check.UNKNOWN, () -> books.bill(10, 0, 0, 10_000));
        Check.refuses("minutes, free of charge, room", Check.RANGE, () -> books.bill(4, 100_001, 0, 0));
        Check.refuses("materials, free of charge, room", Check.RANGE, () -> books.bill(4, 0, 100_000_001, 0));
        Check.refuses("day, free of charge, room", Check.RANGE, () -> books.bill(4, 0, 0, 10_000));
        Check.refuses("day, room, too dear", Check.RANGE, () -> books.bill(3, 100_000, 0, -1));
        Check.refuses("free of charge, room", Check.STATE, () -> books.bill(4, 0, 0, 0));
        Check.refuses("room, too dear", Check.NO_ROOM, () -> books.bill(3, 100_000, 0, 0));
        Check.refuses("room alone", Check.NO_ROOM, () -> books.bill(3, 0, 0, 0));
    }

    private static void paymentOfAPaidBill() {
        CostBooks books = Check.withTariff("3:1+0;");
        books.bill(3, 0, 0, 0);
        books.pay(0, 1);
        Check.refuses("bill, cents too small", Check.UNKNOWN, () -> books.pay(1, 0));
        Check.refuses("bill, cents too large", Check.UNKNOWN, () -> books.pay(-1, 100_000_001));
        Check.refuses("cents too small, nothing left", Check.RANGE, () -> books.pay(0, 0));
        Check.refuses("cents too large, nothing left", Check.RANGE, () -> books.pay(0, 100_000_001));
        Check.refuses("nothing left", Check.STATE, () -> books.pay(0, 100_000_000));
    }

    private static void shareWithoutWeights() {
        CostBooks books = new CostBooks();
        Check.refuses("house, cents, weights", Check.UNKNOWN, () -> books.share(6, -1));
        Check.refuses("house, weights", Check.UNKNOWN, () -> books.share(-1, 0));
        Check.refuses("cents too small, weights", Check.RANGE, () -> books.share(0, -1));
        Check.refuses("cents too large, weights", Check.RANGE, () -> books.share(5, 100_000_001));
        Check.refuses("weights alone", Check.ARITHMETIC, () -> books.share(5, 100_000_000));
        Check.refuses("house, weight", Check.UNKNOWN, () -> books.weight(6, 1_001));
        Check.refuses("house, weight", Check.UNKNOWN, () -> books.weight(-1, -1));
    }

    private static void grantWithoutRoom() {
        CostBooks books = new CostBooks();
        for (int i = 0; i < 20; i++) {
            books.grant(0, 0);
        }
        Check.refuses("purpose, cents, room", Check.UNKNOWN, () -> books.grant(10, -1));
        Check.refuses("purpose, room", Check.UNKNOWN, () -> books.grant(-1, 0));
        Check.refuses("cents too small, room", Check.RANGE, () -> books.grant(0, -1));
        Check.refuses("cents too large, room", Check.RANGE, () -> books.grant(0, 100_000_001));
        Check.refuses("room alone", Check.NO_ROOM, () -> books.grant(9, 100_000_000));
    }

    private static void useForAnotherPurpose() {
        CostBooks books = new CostBooks();
        books.grant(1, 5);
        Check.refuses("grant, cents", Check.UNKNOWN, () -> books.use(1, 1, -1));
        Check.refuses("purpose, cents", Check.UNKNOWN, () -> books.use(0, 10, 100_000_001));
        Check.refuses("purpose, more than is left", Check.UNKNOWN, () -> books.use(0, 10, 6));
        Check.refuses("cents, another purpose", Check.RANGE, () -> books.use(0, 2, -1));
        Check.refuses("cents, more than is left", Check.RANGE, () -> books.use(0, 1, 100_000_001));
        Check.refuses("another purpose, more than is left", Check.STATE, () -> books.use(0, 2, 6));
    }

    private static void rowWithoutRoom() {
        CostBooks books = new CostBooks();
        for (int i = 0; i < 8; i++) {
            books.row(0, 0);
        }
        Check.refuses("account, cents, room", Check.UNKNOWN, () -> books.row(10, 100_000_001));
        Check.refuses("account, room", Check.UNKNOWN, () -> books.row(-1, 0));
        Check.refuses("cents too small, room", Check.RANGE, () -> books.row(0, -100_000_001));
        Check.refuses("cents too large, room", Check.RANGE, () -> books.row(0, 100_000_001));
        Check.refuses("room alone", Check.NO_ROOM, () -> books.row(0, 0));
    }

    private static void postOfAnUnevenBatch() {
        CostBooks books = new CostBooks();
        books.row(0, 1);
        Check.refuses("year, sum", Check.UNKNOWN, () -> books.post(5));
        Check.refuses("year, sum", Check.UNKNOWN, () -> books.post(-1));
        Check.answers("the batch stays", 2, () -> books.row(1, -1));
        for (int year = 0; year < 5; year++) {
            books.close(year);
        }
        Check.refuses("year, all closed", Check.UNKNOWN, () -> books.post(5));
        Check.answers("the batch stays", 3, () -> books.row(1, -1));
        Check.refuses("sum, all closed", Check.STATE, () -> books.post(0));
        Check.answers("the batch is empty", 1, () -> books.row(1, -1));
    }

    private static void closeOfNoYear() {
        CostBooks books = new CostBooks();
        books.order(0, 0, 0);
        Check.refuses("year, open order", Check.UNKNOWN, () -> books.close(-1));
        Check.refuses("year, years before", Check.UNKNOWN, () -> books.close(5));
        Check.refuses("a year before, no order", Check.STATE, () -> books.close(1));
        Check.refuses("an open order", Check.STATE, () -> books.close(0));
    }

    private static void forecastOfNoDays() {
        CostBooks books = new CostBooks();
        Check.refuses("year, days too many", Check.UNKNOWN, () -> books.forecast(5, 0, 366));
        Check.refuses("kind, days too few", Check.UNKNOWN, () -> books.forecast(0, 10, -1));
        Check.refuses("year, 0 days", Check.UNKNOWN, () -> books.forecast(-1, 0, 0));
        Check.refuses("kind, 0 days", Check.UNKNOWN, () -> books.forecast(0, -1, 0));
        Check.refuses("days too few", Check.RANGE, () -> books.forecast(0, 0, -1));
        Check.refuses("days too many", Check.RANGE, () -> books.forecast(0, 0, 366));
        Check.refuses("0 days", Check.ARITHMETIC, () -> books.forecast(0, 0, 0));
    }
}
