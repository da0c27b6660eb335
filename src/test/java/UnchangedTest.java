import java.util.ArrayList;
import java.util.List;

/**
 * Terms, "What is refused changes nothing": each refusal of each call, on books that hold something of
 * everything, leaves them so that all that can be asked and done is answered as without the refused call.
 */
public final class UnchangedTest {
    private interface Call {
        void on(CostBooks books);
    }

    private static List<String> untouched;

    public static void main(String[] args) {
        untouched = allAnswers(someBooks());
        Check.same("the same calls give the same answers", differences(allAnswers(someBooks())), "");
        ofBudgetsAndOrders();
        ofTheTape();
        ofBills();
        ofHousesAndGrants();
        ofTheLedger();
        ofQuestions();
        toldChanges();
        Check.finish("UnchangedTest");
    }

    /** Year 0 is closed; orders 0 invoiced, 1 open, 2 cancelled; bill 0 paid in part, 1 disputed, 2 paid. */
    private static CostBooks someBooks() {
        CostBooks books = Check.withTariff("3:100+10;4:0+0;5:999999+999999;");
        Check.write(books, "x");
        try {
            books.tariff();
        } catch (IllegalStateException e) {
            Check.write(books, "6:1+2;");
        }
        books.close(0);
        books.band(50);
        books.budget(1, 2, 1_010);
        books.order(1, 2, 400);
        books.order(1, 2, 600);
        books.order(1, 2, 0);
        books.invoice(0, 390);
        books.cancel(2);
        for (int i = 0; i < 3; i++) {
            books.bill(3, 60, 0, 10 * i);
        }
        books.pay(0, 60);
        books.dispute(1, true);
        books.pay(2, 110);
        books.remind(5);
        books.weight(0, 3);
        books.weight(4, 4);
        books.grant(7, 900);
        books.use(0, 7, 100);
        books.row(2, 50);
        books.row(3, -50);
        books.post(1);
        books.row(1, 70);
        books.row(2, -70);
        return books;
    }

    /**
     * Questions first; then deeds that show the band, the tape, the tariff, the batch and the closed years.
     * With the calls that made the books they are fewer than the 512 for which an object is promised.
     */
    private static List<String> allAnswers(CostBooks books) {
        List<String> all = new ArrayList<>();
        askAll(books, all);
        tell(all, "invoice above the band", () -> done(() -> books.invoice(1, 631)));
        tell(all, "invoice at the band", () -> done(() -> books.invoice(1, 620)));
        tell(all, "next order", () -> books.order(1, 2, 0));
        for (int kind = 0; kind < 10; kind++) {
            int k = kind;
            tell(all, "bill of " + kind, () -> books.bill(k, 61, 1, 1));
        }
        tell(all, "remind", () -> books.remind(30));
        tell(all, "next grant", () -> books.grant(1, 1));
        tell(all, "tape", () -> books.sign('7', 1));
        tell(all, "tape", () -> books.sign(0x3A312B323BL, 5));
        tell(all, "tariff", books::tariff);
        tell(all, "bill by the new tariff", () -> books.bill(6, 61, 0, 0));
        tell(all, "batch", () -> books.row(5, 0));
        tell(all, "post", () -> books.post(0));
        for (int year = 0; year < 5; year++) {
            int y = year;
            tell(all, "budget in " + year, () -> done(() -> books.budget(y, 8, 8)));
        }
        tell(all, "close", () -> done(() -> books.close(1)));
        tell(all, "close", () -> done(() -> books.close(2)));
        askAgain(books, all);
        return all;
    }

    private static void askAll(CostBooks books, List<String> all) {
        tell(all, "place", books::place);
        for (int i = 0; i < 10; i++) {
            int number = i;
            for (int year = 0; year < 5; year++) {
                int y = year;
                tell(all, "balance " + number + " " + y, () -> books.balance(number, y));
                for (int w = 0; w < 4; w++) {
                    int what = w;
                    tell(all, "budget " + y + " " + number + " " + w, () -> books.budgetAt(y, number, what));
                }
            }
        }
        for (int i = 0; i < 6; i++) {
            int house = i;
            tell(all, "share " + i, () -> books.share(house, 1_001));
        }
        askAgain(books, all);
    }

    private static void askAgain(CostBooks books, List<String> all) {
        for (int i = 0; i < 8; i++) {
            int number = i;
            for (int w = 0; w < 4; w++) {
                int what = w;
                tell(all, "bill " + i + " " + w, () -> books.billAt(number, what));
            }
        }
        for (int w = 0; w < 4; w++) {
            int what = w;
            tell(all, "budget of the orders " + w, () -> books.budgetAt(1, 2, what));
        }
        for (int i = 0; i < 10; i++) {
            int account = i;
            tell(all, "balance " + i, () -> books.balance(account, 1));
        }
        tell(all, "forecast", () -> books.forecast(1, 2, 7));
        tell(all, "grant 0", () -> books.use(0, 7, 0));
        tell(all, "grant 1", () -> books.use(1, 1, 0));
    }

    private static long done(Check.Deed deed) {
        deed.act();
        return 0;
    }

    private static void tell(List<String> all, String what, Check.Question question) {
        String answer;
        try {
            answer = String.valueOf(question.ask());
        } catch (RuntimeException e) {
            answer = e.getClass().getSimpleName();
        }
        all.add(what + ": " + answer);
    }

    private static void refused(String what, Class<? extends RuntimeException> why, Call call) {
        CostBooks books = someBooks();
        Check.refuses(what, why, () -> call.on(books));
        Check.same("the books behind " + what, differences(allAnswers(books)), "");
    }

    private static String differences(List<String> answers) {
        StringBuilder text = new StringBuilder();
        for (int i = 0; i < answers.size(); i++) {
            if (!answers.get(i).equals(untouched.get(i))) {
                text.append(answers.get(i)).append(" (").append(untouched.get(i)).append(") ");
            }
        }
        return text.toString();
    }

    private static void ofBudgetsAndOrders() {
        refused("budget: no such year", Check.UNKNOWN, b -> b.budget(5, 0, 7));
        refused("budget: no such kind", Check.UNKNOWN, b -> b.budget(1, 10, 7));
        refused("budget: cents", Check.RANGE, b -> b.budget(1, 2, 100_000_001));
        refused("budget: closed", Check.STATE, b -> b.budget(0, 1, 7));
        refused("budget: less than held and spent", Check.STATE, b -> b.budget(1, 2, 989));
        refused("band: too small", Check.RANGE, b -> b.band(-1));
        refused("band: too large", Check.RANGE, b -> b.band(1_001));
        refused("order: no such year", Check.UNKNOWN, b -> b.order(5, 0, 0));
        refused("order: no such kind", Check.UNKNOWN, b -> b.order(1, 10, 0));
        refused("order: cents", Check.RANGE, b -> b.order(1, 2, -1));
        refused("order: closed", Check.STATE, b -> b.order(0, 0, 0));
        refused("order: more than free", Check.STATE, b -> b.order(1, 2, 21));
        refused("invoice: no such order", Check.UNKNOWN, b -> b.invoice(3, 0));
        refused("invoice: cents", Check.RANGE, b -> b.invoice(1, -1));
        refused("invoice: invoiced", Check.STATE, b -> b.invoice(0, 400));
        refused("invoice: cancelled", Check.STATE, b -> b.invoice(2, 0));
        refused("invoice: above the band", Check.STATE, b -> b.invoice(1, 631));
        refused("invoice: below the band", Check.STATE, b -> b.invoice(1, 569));
        refused("invoice: more than free", Check.STATE, b -> b.invoice(1, 621));
        refused("cancel: no such order", Check.UNKNOWN, b -> b.cancel(3));
        refused("cancel: invoiced", Check.STATE, b -> b.cancel(0));
        refused("cancel: cancelled", Check.STATE, b -> b.cancel(2));
    }

    private static void ofTheTape() {
        refused("sign: n too small", Check.RANGE, b -> b.sign('9', 0));
        refused("sign: n too large", Check.RANGE, b -> b.sign('9', 9));
    }

    private static void ofBills() {
        refused("bill: no such kind", Check.UNKNOWN, b -> b.bill(10, 0, 0, 0));
        refused("bill: minutes", Check.RANGE, b -> b.bill(3, 100_001, 0, 0));
        refused("bill: materials", Check.RANGE, b -> b.bill(3, 0, -1, 0));
        refused("bill: day", Check.RANGE, b -> b.bill(3, 0, 0, 10_000));
        refused("bill: no row", Check.STATE, b -> b.bill(6, 0, 0, 0));
        refused("bill: 0+0", Check.STATE, b -> b.bill(4, 0, 0, 0));
        refused("bill: too dear", Check.NO_ROOM, b -> b.bill(5, 100_000, 0, 0));
        refused("pay: no such bill", Check.UNKNOWN, b -> b.pay(3, 1));
        refused("pay: cents", Check.RANGE, b -> b.pay(0, 0));
        refused("pay: more than is left", Check.STATE, b -> b.pay(0, 51));
        refused("pay: nothing is left", Check.STATE, b -> b.pay(2, 1));
        refused("dispute: no such bill", Check.UNKNOWN, b -> b.dispute(3, true));
        refused("dispute: disputed", Check.STATE, b -> b.dispute(1, true));
        refused("dispute: not disputed", Check.STATE, b -> b.dispute(0, false));
        refused("dispute: not open", Check.STATE, b -> b.dispute(2, true));
        refused("remind: too small", Check.RANGE, b -> b.remind(-1));
        refused("remind: too large", Check.RANGE, b -> b.remind(10_000));
    }

    private static void ofHousesAndGrants() {
        refused("weight: no such house", Check.UNKNOWN, b -> b.weight(6, 1));
        refused("weight: too small", Check.RANGE, b -> b.weight(0, -1));
        refused("weight: too large", Check.RANGE, b -> b.weight(0, 1_001));
        refused("grant: no such purpose", Check.UNKNOWN, b -> b.grant(10, 1));
        refused("grant: cents", Check.RANGE, b -> b.grant(0, 100_000_001));
        refused("use: no such grant", Check.UNKNOWN, b -> b.use(1, 7, 1));
        refused("use: no such purpose", Check.UNKNOWN, b -> b.use(0, 10, 1));
        refused("use: cents", Check.RANGE, b -> b.use(0, 7, -1));
        refused("use: another purpose", Check.STATE, b -> b.use(0, 8, 1));
        refused("use: more than is left", Check.STATE, b -> b.use(0, 7, 801));
    }

    private static void ofTheLedger() {
        refused("row: no such account", Check.UNKNOWN, b -> b.row(10, 1));
        refused("row: too small", Check.RANGE, b -> b.row(0, -100_000_001));
        refused("row: too large", Check.RANGE, b -> b.row(0, 100_000_001));
        refused("post: no such year", Check.UNKNOWN, b -> b.post(5));
        refused("close: no such year", Check.UNKNOWN, b -> b.close(5));
        refused("close: closed", Check.STATE, b -> b.close(0));
        refused("close: a year before it is not", Check.STATE, b -> b.close(2));
        refused("close: an order is open", Check.STATE, b -> b.close(1));
    }

    private static void ofQuestions() {
        refused("budgetAt", Check.UNKNOWN, b -> b.budgetAt(1, 2, 4));
        refused("billAt", Check.UNKNOWN, b -> b.billAt(0, 4));
        refused("balance", Check.UNKNOWN, b -> b.balance(10, 0));
        refused("share: no such house", Check.UNKNOWN, b -> b.share(6, 1));
        refused("share: cents", Check.RANGE, b -> b.share(0, -1));
        refused("forecast: no such kind", Check.UNKNOWN, b -> b.forecast(1, 10, 1));
        refused("forecast: days", Check.RANGE, b -> b.forecast(1, 2, 366));
        refused("forecast: no days", Check.ARITHMETIC, b -> b.forecast(1, 2, 0));
    }

    /** What the document tells by batches and the tape: just these change, and nothing beside them. */
    private static void toldChanges() {
        CostBooks uneven = someBooks();
        uneven.row(9, 1);
        Check.refuses("an uneven batch", Check.STATE, () -> uneven.post(1));
        CostBooks without = someBooks();
        without.post(1);
        uneven.row(1, 70);
        uneven.row(2, -70);
        uneven.post(1);
        Check.same("only the batch is empty", allAnswers(uneven), allAnswers(without));

        CostBooks wrong = someBooks();
        Check.write(wrong, "9");
        Check.refuses("a wrong text", Check.STATE, wrong::tariff);
        Check.answers("its place", 7, wrong::place);
        Check.write(wrong, "x");
        Check.refuses("the tape was used up", Check.STATE, wrong::tariff);
        Check.answers("the place as in the other books", 0, wrong::place);
        Check.write(wrong, "6:1+2;");
        Check.same("only the tape and the place", differences(allAnswers(wrong)), "");
    }
}
