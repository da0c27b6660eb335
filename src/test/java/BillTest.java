/** Promises 11 to 15: bill, pay, dispute, remind, billAt. */
public final class BillTest {
    public static void main(String[] args) {
        begunHours();
        billRefusals();
        sixtyBills();
        mostOfABill();
        laterTariffChangesNoBill();
        eachBegunHour();
        instalments();
        payRefusals();
        billOfNothing();
        greatestBillInInstalments();
        disputes();
        eachDisputeIsItsOwn();
        disputeRefusals();
        reminders();
        eachDueDay();
        manyReminders();
        whoIsReminded();
        remindRefusals();
        billAtRefusals();
        Check.finish("BillTest");
    }

    private static void begunHours() {
        CostBooks books = Check.withTariff("3:1000+70;4:0+5;5:9+0;");
        int[] minutes = {0, 1, 59, 60, 61, 120, 121, 100_000};
        int[] hours = {0, 1, 1, 1, 2, 2, 3, 1_667};
        for (int i = 0; i < minutes.length; i++) {
            int number = i;
            int time = minutes[i];
            Check.answers("bill " + i, number, () -> books.bill(3, time, 8, 0));
            Check.answers(time + " minutes", 1_008 + 70L * hours[i], () -> books.billAt(number, 0));
        }
        Check.answers("no base", 8, () -> books.bill(4, 61, 0, 0));
        Check.answers("no base", 10, () -> books.billAt(8, 0));
        Check.answers("no hour", 9, () -> books.bill(5, 61, 0, 0));
        Check.answers("no hour", 9, () -> books.billAt(9, 0));
        Check.answers("the most materials", 10, () -> books.bill(5, 0, 100_000_000, 9_999));
        Check.answers("the most materials", 100_000_009, () -> books.billAt(10, 0));
        Check.answers("nothing paid", 0, () -> books.billAt(10, 1));
        Check.answers("not disputed", 0, () -> books.billAt(10, 2));
        Check.answers("not reminded", 0, () -> books.billAt(10, 3));
    }

    private static void billRefusals() {
        CostBooks books = Check.withTariff("3:1+1;4:0+0;");
        for (int bad : Check.OUTSIDE_ALL) {
            Check.refuses("bill kind " + bad, Check.UNKNOWN, () -> books.bill(bad, -1, -1, -1));
            Check.refuses("bill minutes " + bad, Check.RANGE, () -> books.bill(3, bad, 0, 0));
            Check.refuses("bill materials " + bad, Check.RANGE, () -> books.bill(3, 0, bad, 0));
            Check.refuses("bill day " + bad, Check.RANGE, () -> books.bill(3, 0, 0, bad));
        }
        Check.refuses("bill kind 10", Check.UNKNOWN, () -> books.bill(10, 0, 0, 0));
        Check.refuses("bill minutes", Check.RANGE, () -> books.bill(3, 100_001, 0, 0));
        Check.refuses("bill materials", Check.RANGE, () -> books.bill(3, 0, 100_000_001, 0));
        Check.refuses("bill day", Check.RANGE, () -> books.bill(3, 0, 0, 10_000));
        Check.refuses("0+0", Check.STATE, () -> books.bill(4, 60, 10, 0));
        Check.refuses("no row", Check.STATE, () -> books.bill(5, 60, 10, 0));
        Check.refuses("range before state", Check.RANGE, () -> books.bill(5, 60, 10, -1));
        Check.answers("refused bills took no number", 0, () -> books.bill(3, 0, 0, 0));
    }

    private static void sixtyBills() {
        CostBooks books = Check.withTariff("3:1+1;");
        for (int i = 0; i < 60; i++) {
            int number = i;
            Check.answers("bill " + i, number, () -> books.bill(3, 0, number, 0));
        }
        Check.refuses("61st bill", Check.NO_ROOM, () -> books.bill(3, 0, 0, 0));
        Check.refuses("state before room", Check.STATE, () -> books.bill(4, 0, 0, 0));
        Check.refuses("range before room", Check.RANGE, () -> books.bill(3, -1, 0, 0));
        Check.refuses("no bill 60", Check.UNKNOWN, () -> books.billAt(60, 0));
        Check.answers("the last bill", 60, () -> books.billAt(59, 0));
        Check.answers("all 60 are reminded", 60, () -> books.remind(1));
        Check.answers("the last bill is reminded", 1, () -> books.billAt(59, 3));
    }

    private static void mostOfABill() {
        // 1,000 hours of 900,000 and 100,000,000 of materials are just 1,000,000,000.
        CostBooks books = Check.withTariff("3:0+900000;4:1+900000;5:999999+999999;");
        Check.answers("the most cents", 0, () -> books.bill(3, 60_000, 100_000_000, 0));
        Check.answers("the most cents", 1_000_000_000, () -> books.billAt(0, 0));
        Check.refuses("one cent more", Check.NO_ROOM, () -> books.bill(4, 60_000, 100_000_000, 0));
        Check.answers("a cent less of materials", 1, () -> books.bill(4, 60_000, 99_999_999, 0));
        Check.refuses("the dearest bill", Check.NO_ROOM, () -> books.bill(5, 100_000, 100_000_000, 0));
        Check.refuses("a dear bill", Check.NO_ROOM, () -> books.bill(5, 100_000, 0, 0));
        Check.refuses("no bill 2", Check.UNKNOWN, () -> books.billAt(2, 0));
    }

    private static void laterTariffChangesNoBill() {
        CostBooks books = Check.withTariff("3:10+1;");
        books.bill(3, 60, 0, 0);
        Check.write(books, "3:99+9;");
        books.tariff();
        Check.answers("as it was billed", 11, () -> books.billAt(0, 0));
    }

    private static void eachBegunHour() {
        for (int hour = 0; hour < 28; hour++) {
            CostBooks books = Check.withTariff("0:0+1;");
            books.bill(0, 60 * hour, 0, 0);
            books.bill(0, 60 * hour + 1, 0, 0);
            books.bill(0, 60 * hour + 59, 0, 0);
            Check.answers(hour + " hours", hour, () -> books.billAt(0, 0));
            Check.answers(hour + " hours and a minute", hour + 1, () -> books.billAt(1, 0));
            Check.answers(hour + " hours and 59 minutes", hour + 1, () -> books.billAt(2, 0));
        }
    }

    private static void instalments() {
        CostBooks books = Check.withTariff("3:100+0;");
        books.bill(3, 0, 0, 0);
        books.bill(3, 0, 100, 0);
        Check.answers("an instalment", 90, () -> books.pay(0, 10));
        Check.answers("the least instalment", 89, () -> books.pay(0, 1));
        Check.answers("paid", 11, () -> books.billAt(0, 1));
        Check.refuses("more than is left", Check.STATE, () -> books.pay(0, 90));
        Check.answers("paid as before", 11, () -> books.billAt(0, 1));
        Check.answers("the rest", 0, () -> books.pay(0, 89));
        Check.refuses("nothing is left", Check.STATE, () -> books.pay(0, 1));
        Check.answers("the cents stay", 100, () -> books.billAt(0, 0));
        Check.answers("the other bill", 0, () -> books.billAt(1, 1));
        books.dispute(1, true);
        Check.answers("a disputed bill may be paid", 150, () -> books.pay(1, 50));
        books.bill(3, 0, 100_000_000, 0);
        Check.answers("the most cents", 100, () -> books.pay(2, 100_000_000));
    }

    private static void payRefusals() {
        CostBooks books = Check.withTariff("3:100+0;");
        books.bill(3, 0, 100_000_000, 0);
        for (int bad : Check.OUTSIDE_ALL) {
            Check.refuses("pay of " + bad, Check.UNKNOWN, () -> books.pay(bad, 0));
            Check.refuses("pay cents " + bad, Check.RANGE, () -> books.pay(0, bad));
        }
        Check.refuses("pay of 1", Check.UNKNOWN, () -> books.pay(1, 1));
        Check.refuses("pay 0", Check.RANGE, () -> books.pay(0, 0));
        Check.refuses("pay above the most", Check.RANGE, () -> books.pay(0, 100_000_001));
        Check.answers("nothing paid", 0, () -> books.billAt(0, 1));
    }

    private static void billOfNothing() {
        CostBooks books = Check.withTariff("3:0+1;");
        Check.answers("a bill of nothing has a number", 0, () -> books.bill(3, 0, 0, 0));
        Check.refuses("nothing to pay", Check.STATE, () -> books.pay(0, 1));
        Check.refuses("no instalment of nothing", Check.RANGE, () -> books.pay(0, 0));
        Check.answers("never reminded", 0, () -> books.remind(9_999));
        Check.answers("a minute makes it open", 1, () -> books.bill(3, 1, 0, 0));
        Check.answers("reminded", 1, () -> books.remind(9_999));
    }

    private static void greatestBillInInstalments() {
        CostBooks books = Check.withTariff("3:0+900000;");
        books.bill(3, 60_000, 100_000_000, 0);
        for (int i = 1; i <= 10; i++) {
            int left = 1_000_000_000 - 100_000_000 * i;
            Check.answers("instalment " + i, left, () -> books.pay(0, 100_000_000));
        }
        Check.answers("all paid", 1_000_000_000, () -> books.billAt(0, 1));
        Check.refuses("not a cent more", Check.STATE, () -> books.pay(0, 1));
        Check.refuses("not open any more", Check.STATE, () -> books.dispute(0, true));
    }

    private static void disputes() {
        CostBooks books = Check.withTariff("3:100+0;");
        books.bill(3, 0, 0, 0);
        books.bill(3, 0, 0, 0);
        Check.does("disputed", () -> books.dispute(0, true));
        Check.answers("disputed", 1, () -> books.billAt(0, 2));
        Check.answers("the other is not", 0, () -> books.billAt(1, 2));
        Check.refuses("it is so", Check.STATE, () -> books.dispute(0, true));
        Check.does("not any more", () -> books.dispute(0, false));
        Check.answers("not any more", 0, () -> books.billAt(0, 2));
        Check.refuses("it is so", Check.STATE, () -> books.dispute(0, false));
        Check.does("again", () -> books.dispute(0, true));
        books.pay(0, 100);
        Check.answers("paid, and disputed still", 1, () -> books.billAt(0, 2));
        Check.does("a paid bill is disputed no more", () -> books.dispute(0, false));
        Check.refuses("a paid bill is not open", Check.STATE, () -> books.dispute(0, true));
        Check.answers("not disputed", 0, () -> books.billAt(0, 2));
    }

    private static void eachDisputeIsItsOwn() {
        CostBooks books = Check.withTariff("3:1+1;");
        for (int i = 0; i < 60; i++) {
            books.bill(3, 0, 0, 0);
        }
        for (int i = 0; i < 60; i += 7) {
            books.dispute(i, true);
        }
        for (int i = 0; i < 60; i++) {
            int number = i;
            Check.answers("disputed " + i, i % 7 == 0 ? 1 : 0, () -> books.billAt(number, 2));
        }
        Check.answers("the others are reminded", 51, () -> books.remind(1));
        for (int i = 0; i < 60; i++) {
            int number = i;
            Check.answers("reminded " + i, i % 7 == 0 ? 0 : 1, () -> books.billAt(number, 3));
        }
    }

    private static void disputeRefusals() {
        CostBooks books = Check.withTariff("3:0+1;");
        for (int bad : Check.OUTSIDE_ALL) {
            Check.refuses("dispute of " + bad, Check.UNKNOWN, () -> books.dispute(bad, true));
        }
        Check.refuses("dispute of 0", Check.UNKNOWN, () -> books.dispute(0, false));
        books.bill(3, 0, 0, 0);
        Check.answers("a bill of nothing", 0, () -> books.billAt(0, 0));
        Check.refuses("a bill of nothing is not open", Check.STATE, () -> books.dispute(0, true));
        Check.refuses("dispute of 1", Check.UNKNOWN, () -> books.dispute(1, true));
    }

    private static void reminders() {
        CostBooks books = Check.withTariff("3:100+0;");
        books.bill(3, 0, 0, 5);
        books.bill(3, 0, 0, 0);
        books.bill(3, 0, 0, 9_998);
        books.bill(3, 0, 0, 9_999);
        Check.answers("day 0", 0, () -> books.remind(0));
        Check.answers("day 1", 1, () -> books.remind(1));
        Check.answers("the due day itself", 1, () -> books.remind(5));
        Check.answers("the day behind it", 2, () -> books.remind(6));
        Check.answers("the last day", 3, () -> books.remind(9_999));
        Check.answers("an earlier day again", 1, () -> books.remind(5));
        int[] due = {2, 5, 1, 0};
        for (int i = 0; i < due.length; i++) {
            int number = i;
            Check.answers("reminders of " + i, due[i], () -> books.billAt(number, 3));
        }
    }

    private static void eachDueDay() {
        for (int due : new int[] {0, 1, 2, 4_999, 5_000, 9_997, 9_998}) {
            CostBooks books = Check.withTariff("3:1+1;");
            books.bill(3, 0, 0, due);
            Check.answers("on the due day " + due, 0, () -> books.remind(due));
            Check.answers("on the day behind " + due, 1, () -> books.remind(due + 1));
            Check.answers("on the last day, due " + due, 1, () -> books.remind(9_999));
            Check.answers("on the first day, due " + due, 0, () -> books.remind(0));
            Check.answers("times", 2, () -> books.billAt(0, 3));
        }
    }

    private static void manyReminders() {
        CostBooks books = Check.withTariff("3:1+1;");
        books.bill(3, 0, 0, 0);
        for (int i = 1; i <= 500; i++) {
            Check.answers("reminder " + i, 1, () -> books.remind(9_999));
        }
        Check.answers("500 times", 500, () -> books.billAt(0, 3));
    }

    private static void whoIsReminded() {
        CostBooks books = Check.withTariff("3:100+0;4:0+1;");
        books.bill(3, 0, 0, 5);
        books.bill(3, 0, 0, 5);
        books.bill(4, 0, 0, 5);
        Check.answers("a bill of nothing is not reminded", 2, () -> books.remind(6));
        books.dispute(0, true);
        Check.answers("a disputed one is not", 1, () -> books.remind(6));
        books.pay(1, 99);
        Check.answers("a cent is left", 1, () -> books.remind(6));
        books.pay(1, 1);
        Check.answers("a paid one is not", 0, () -> books.remind(6));
        books.dispute(0, false);
        Check.answers("disputed no more", 1, () -> books.remind(6));
        Check.answers("reminders of 0", 2, () -> books.billAt(0, 3));
        Check.answers("reminders of 1", 3, () -> books.billAt(1, 3));
        Check.answers("reminders of 2", 0, () -> books.billAt(2, 3));
    }

    private static void remindRefusals() {
        CostBooks books = Check.withTariff("3:100+0;");
        books.bill(3, 0, 0, 5);
        for (int bad : Check.OUTSIDE_ALL) {
            Check.refuses("remind " + bad, Check.RANGE, () -> books.remind(bad));
        }
        Check.refuses("remind 10000", Check.RANGE, () -> books.remind(10_000));
        Check.answers("nobody was reminded", 0, () -> books.billAt(0, 3));
    }

    private static void billAtRefusals() {
        CostBooks books = Check.withTariff("3:100+0;");
        books.bill(3, 0, 0, 5);
        for (int bad : Check.OUTSIDE_ALL) {
            Check.refuses("billAt of " + bad, Check.UNKNOWN, () -> books.billAt(bad, 0));
            Check.refuses("billAt what " + bad, Check.UNKNOWN, () -> books.billAt(0, bad));
        }
        Check.refuses("billAt of 1", Check.UNKNOWN, () -> books.billAt(1, 0));
        Check.refuses("billAt what 4", Check.UNKNOWN, () -> books.billAt(0, 4));
    }
}
