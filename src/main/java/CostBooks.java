/** Money of a rescue service; each public method keeps the promise of its name in DOC.md. */
public final class CostBooks {
    private static final int YEARS = 5;
    private static final int KINDS = 10;
    private static final int PURPOSES = 10;
    private static final int ACCOUNTS = 10;
    private static final int HOUSES = 6;

    private static final int MOST_ORDERS = 60;
    private static final int MOST_BILLS = 60;
    private static final int MOST_GRANTS = 20;
    private static final int MOST_ROWS = 8;
    private static final int MOST_BYTES = 200;
    private static final int MOST_BYTES_AT_ONCE = 8;

    private static final int MOST_CENTS = 100_000_000;
    private static final int MOST_BILL_CENTS = 1_000_000_000;
    private static final int MOST_MINUTES = 100_000;
    private static final int MOST_WEIGHT = 1_000;
    private static final int LAST_DAY = 9_999;
    private static final int WHOLE_BAND = 1_000;
    private static final int FIRST_BAND = 100;
    private static final int DAYS_OF_YEAR = 365;
    private static final int MINUTES_OF_HOUR = 60;
    private static final int NOT_WRONG = -1;

    private final Budgets budgets = new Budgets();
    private final Orders orders = new Orders();
    private final Tape tape = new Tape();
    private final TariffReader reader = new TariffReader();
    private final Tariff charges = new Tariff();
    private final Bills bills = new Bills();
    private final Houses houses = new Houses();
    private final Grants grants = new Grants();
    private final Ledger ledger = new Ledger();
    private int bandThousandths = FIRST_BAND;
    private int wrongPlace = NOT_WRONG;
    // Years close in their order only, so a count tells which ones are closed.
    private int closedYears = 0;

    public CostBooks() {
    }

    public void budget(int year, int kind, int cents)
            throws IllegalArgumentException, IndexOutOfBoundsException, IllegalStateException {
        requireKnown(year, YEARS);
        requireKnown(kind, KINDS);
        requireRange(cents, 0, MOST_CENTS);
        int slot = slotOf(year, kind);
        requireState(!isClosed(year) && cents >= budgets.boundIn(slot));
        budgets.total[slot] = cents;
    }

    public int budgetAt(int year, int kind, int what) throws IllegalArgumentException {
        requireKnown(year, YEARS);
        requireKnown(kind, KINDS);
        requireKnown(what, 4);
        int slot = slotOf(year, kind);
        switch (what) {
            case 0:
                return budgets.total[slot];
            case 1:
                return budgets.held[slot];
            case 2:
                return budgets.spent[slot];
            default:
                return budgets.freeIn(slot);
        }
    }

    public void band(int thousandths) throws IndexOutOfBoundsException {
        requireRange(thousandths, 0, WHOLE_BAND);
        bandThousandths = thousandths;
    }

    public int order(int year, int kind, int cents)
            throws IllegalArgumentException, IndexOutOfBoundsException, IllegalStateException,
            UnsupportedOperationException {
        requireKnown(year, YEARS);
        requireKnown(kind, KINDS);
        requireRange(cents, 0, MOST_CENTS);
        int slot = slotOf(year, kind);
        requireState(!isClosed(year) && cents <= budgets.freeIn(slot));
        requireRoom(orders.count < MOST_ORDERS);
        budgets.held[slot] += cents;
        return orders.add(slot, cents);
    }

    public void invoice(int order, int cents)
            throws IllegalArgumentException, IndexOutOfBoundsException, IllegalStateException {
        requireKnown(order, orders.count);
        requireRange(cents, 0, MOST_CENTS);
        requireState(orders.open[order]);
        int slot = orders.slot[order];
        int more = cents - orders.cents[order];
        requireState(Math.abs(more) <= orders.bandOf(order, bandThousandths));
        requireState(more <= budgets.freeIn(slot));
        release(order);
        budgets.spent[slot] += cents;
    }

    public void cancel(int order) throws IllegalArgumentException, IllegalStateException {
        requireKnown(order, orders.count);
        requireState(orders.open[order]);
        release(order);
    }

    public int sign(long bytes, int n) throws IndexOutOfBoundsException, UnsupportedOperationException {
        requireRange(n, 1, MOST_BYTES_AT_ONCE);
        requireRoom(tape.length + n <= MOST_BYTES);
        tape.write(bytes, n);
        return tape.length;
    }

    public int tariff() throws IllegalStateException {
        wrongPlace = reader.read(tape);
        tape.length = 0;
        requireState(wrongPlace == NOT_WRONG);
        charges.become(reader);
        return reader.rows;
    }

    public int place() {
        return wrongPlace;
    }

    public int bill(int kind, int minutes, int materials, int due)
            throws IllegalArgumentException, IndexOutOfBoundsException, IllegalStateException,
            UnsupportedOperationException {
        requireKnown(kind, KINDS);
        requireRange(minutes, 0, MOST_MINUTES);
        requireRange(materials, 0, MOST_CENTS);
        requireRange(due, 0, LAST_DAY);
        requireState(!charges.isFree(kind));
        long cents = charges.costOf(kind, minutes) + materials;
        requireRoom(bills.count < MOST_BILLS && cents <= MOST_BILL_CENTS);
        return bills.add((int) cents, due);
    }

    public int pay(int bill, int cents)
            throws IllegalArgumentException, IndexOutOfBoundsException, IllegalStateException {
        requireKnown(bill, bills.count);
        requireRange(cents, 1, MOST_CENTS);
        requireState(cents <= bills.leftOf(bill));
        bills.paid[bill] += cents;
        return bills.leftOf(bill);
    }

    public void dispute(int bill, boolean on) throws IllegalArgumentException, IllegalStateException {
        requireKnown(bill, bills.count);
        requireState(bills.disputed[bill] != on);
        requireState(!on || bills.isOpen(bill));
        bills.disputed[bill] = on;
    }

    public int remind(int day) throws IndexOutOfBoundsException {
        requireRange(day, 0, LAST_DAY);
        return bills.remindAll(day);
    }

    public int billAt(int bill, int what) throws IllegalArgumentException {
        requireKnown(bill, bills.count);
        requireKnown(what, 4);
        switch (what) {
            case 0:
                return bills.cents[bill];
            case 1:
                return bills.paid[bill];
            case 2:
                return bills.disputed[bill] ? 1 : 0;
            default:
                return bills.reminded[bill];
        }
    }

    public void weight(int house, int w) throws IllegalArgumentException, IndexOutOfBoundsException {
        requireKnown(house, HOUSES);
        requireRange(w, 0, MOST_WEIGHT);
        houses.weights[house] = w;
    }

    public int share(int house, int cents)
            throws IllegalArgumentException, IndexOutOfBoundsException, ArithmeticException {
        requireKnown(house, HOUSES);
        requireRange(cents, 0, MOST_CENTS);
        int sum = houses.sumOfWeights();
        if (sum <= 0) {
            throw new ArithmeticException("the weights sum to 0");
        }
        return houses.partOf(house, cents, sum);
    }

    public int grant(int purpose, int cents)
            throws IllegalArgumentException, IndexOutOfBoundsException, UnsupportedOperationException {
        requireKnown(purpose, PURPOSES);
        requireRange(cents, 0, MOST_CENTS);
        requireRoom(grants.count < MOST_GRANTS);
        return grants.add(purpose, cents);
    }

    public int use(int grant, int purpose, int cents)
            throws IllegalArgumentException, IndexOutOfBoundsException, IllegalStateException {
        requireKnown(grant, grants.count);
        requireKnown(purpose, PURPOSES);
        requireRange(cents, 0, MOST_CENTS);
        requireState(grants.purpose[grant] == purpose && cents <= grants.left[grant]);
        grants.left[grant] -= cents;
        return grants.left[grant];
    }

    public int row(int account, int cents)
            throws IllegalArgumentException, IndexOutOfBoundsException, UnsupportedOperationException {
        requireKnown(account, ACCOUNTS);
        requireRange(cents, -MOST_CENTS, MOST_CENTS);
        requireRoom(ledger.rows < MOST_ROWS);
        ledger.addRow(account, cents);
        return ledger.rows;
    }

    public int post(int year) throws IllegalArgumentException, IllegalStateException {
        requireKnown(year, YEARS);
        int openYear = Math.max(year, closedYears);
        boolean fits = openYear < YEARS && ledger.sumOfRows() == 0;
        if (fits) {
            ledger.bookRows(openYear);
        }
        ledger.rows = 0;
        requireState(fits);
        return openYear;
    }

    public long balance(int account, int year) throws IllegalArgumentException {
        requireKnown(account, ACCOUNTS);
        requireKnown(year, YEARS);
        return ledger.balances[ledger.cellOf(account, year)];
    }

    public void close(int year) throws IllegalArgumentException, IllegalStateException {
        requireKnown(year, YEARS);
        // Any other year than the next one is closed already or has an open one before it.
        requireState(year == closedYears && !orders.anyOpenIn(year));
        closedYears++;
    }

    public long forecast(int year, int kind, int days)
            throws IllegalArgumentException, IndexOutOfBoundsException, ArithmeticException {
        requireKnown(year, YEARS);
        requireKnown(kind, KINDS);
        requireRange(days, 0, DAYS_OF_YEAR);
        if (days == 0) {
            throw new ArithmeticException("no day went by");
        }
        return (long) budgets.spent[slotOf(year, kind)] * DAYS_OF_YEAR / days;
    }

    private static void requireKnown(int number, int count) {
        if (number < 0 || number >= count) {
            throw new IllegalArgumentException("unknown number");
        }
    }

    private static void requireRange(int number, int least, int most) {
        if (number < least || number > most) {
            throw new IndexOutOfBoundsException("number outside its range");
        }
    }

    private static void requireState(boolean holds) {
        if (!holds) {
            throw new IllegalStateException("not in this state");
        }
    }

    private static void requireRoom(boolean holds) {
        if (!holds) {
            throw new UnsupportedOperationException("no room");
        }
    }

    private static int slotOf(int year, int kind) {
        return year * KINDS + kind;
    }

    private boolean isClosed(int year) {
        return year < closedYears;
    }

    private void release(int order) {
        orders.open[order] = false;
        budgets.held[orders.slot[order]] -= orders.cents[order];
    }

    /** A slot stands for a year and a kind. */
    private static final class Budgets {
        private final int[] total = new int[YEARS * KINDS];
        private final int[] held = new int[YEARS * KINDS];
        private final int[] spent = new int[YEARS * KINDS];

        private int boundIn(int slot) {
            return held[slot] + spent[slot];
        }

        private int freeIn(int slot) {
            return total[slot] - boundIn(slot);
        }
    }

    private static final class Orders {
        private final int[] slot = new int[MOST_ORDERS];
        private final int[] cents = new int[MOST_ORDERS];
        private final boolean[] open = new boolean[MOST_ORDERS];
        private int count = 0;

        private int add(int newSlot, int newCents) {
            slot[count] = newSlot;
            cents[count] = newCents;
            open[count] = true;
            count++;
            return count - 1;
        }

        private long bandOf(int number, int thousandths) {
            return (long) cents[number] * thousandths / WHOLE_BAND;
        }

        private boolean anyOpenIn(int year) {
            for (int i = 0; i < count; i++) {
                if (open[i] && slot[i] / KINDS == year) {
                    return true;
                }
            }
            return false;
        }
    }

    private static final class Tape {
        private final int[] bytes = new int[MOST_BYTES];
        private int length = 0;

        private void write(long packed, int n) {
            for (int i = n - 1; i >= 0; i--) {
                bytes[length] = (int) (packed >>> (8 * i)) & 255;
                length++;
            }
        }
    }

    /** Reads into rows of its own, so that a wrong text leaves the tariff as it was. */
    private static final class TariffReader {
        private static final int AT_KIND = 0;
        private static final int AT_COLON = 1;
        private static final int AT_BASE = 2;
        private static final int AT_HOUR = 3;
        private static final int MOST_DIGITS = 6;

        private final int[] base = new int[KINDS];
        private final int[] hour = new int[KINDS];
        private final boolean[] told = new boolean[KINDS];
        private int rows = 0;
        private int part = AT_KIND;
        private int kind = 0;
        private int number = 0;
        private int digits = 0;

        private int read(Tape text) {
            startAnew();
            for (int i = 0; i < text.length; i++) {
                if (!takes(text.bytes[i])) {
                    return i;
                }
            }
            return part == AT_KIND ? NOT_WRONG : text.length;
        }

        private void startAnew() {
            for (int i = 0; i < KINDS; i++) {
                base[i] = 0;
                hour[i] = 0;
                told[i] = false;
            }
            rows = 0;
            part = AT_KIND;
            startNumber();
        }

        private void startNumber() {
            number = 0;
            digits = 0;
        }

        private boolean takes(int b) {
            switch (part) {
                case AT_KIND:
                    return takesKind(b);
                case AT_COLON:
                    part = AT_BASE;
                    return b == ':';
                case AT_BASE:
                    return b == '+' ? endsBase() : takesDigit(b);
                default:
                    return b == ';' ? endsHour() : takesDigit(b);
            }
        }

        private boolean takesKind(int b) {
            if (!isDigit(b) || told[b - '0']) {
                return false;
            }
            kind = b - '0';
            told[kind] = true;
            part = AT_COLON;
            return true;
        }

        private boolean takesDigit(int b) {
            // Behind a first digit the number is 0 only when that digit was a 0.
            boolean mayGrow = digits == 0 || (number > 0 && digits < MOST_DIGITS);
            if (!isDigit(b) || !mayGrow) {
                return false;
            }
            number = number * 10 + (b - '0');
            digits++;
            return true;
        }

        private boolean endsBase() {
            boolean whole = digits > 0;
            base[kind] = number;
            part = AT_HOUR;
            startNumber();
            return whole;
        }

        private boolean endsHour() {
            boolean whole = digits > 0;
            hour[kind] = number;
            part = AT_KIND;
            rows++;
            startNumber();
            return whole;
        }

        private static boolean isDigit(int b) {
            return b >= '0' && b <= '9';
        }
    }

    /** A kind without a row has 0 and 0, which is free of charge all the same. */
    private static final class Tariff {
        private final int[] base = new int[KINDS];
        private final int[] hour = new int[KINDS];

        private void become(TariffReader text) {
            for (int i = 0; i < KINDS; i++) {
                base[i] = text.base[i];
                hour[i] = text.hour[i];
            }
        }

        private boolean isFree(int kind) {
            return base[kind] == 0 && hour[kind] == 0;
        }

        private long costOf(int kind, int minutes) {
            int begunHours = (minutes + MINUTES_OF_HOUR - 1) / MINUTES_OF_HOUR;
            return base[kind] + (long) hour[kind] * begunHours;
        }
    }

    private static final class Bills {
        private final int[] cents = new int[MOST_BILLS];
        private final int[] paid = new int[MOST_BILLS];
        private final int[] dueDay = new int[MOST_BILLS];
        private final int[] reminded = new int[MOST_BILLS];
        private final boolean[] disputed = new boolean[MOST_BILLS];
        private int count = 0;

        private int add(int newCents, int newDueDay) {
            cents[count] = newCents;
            dueDay[count] = newDueDay;
            count++;
            return count - 1;
        }

        private int leftOf(int number) {
            return cents[number] - paid[number];
        }

        private boolean isOpen(int number) {
            return leftOf(number) > 0;
        }

        private int remindAll(int day) {
            int many = 0;
            for (int i = 0; i < count; i++) {
                if (isOpen(i) && !disputed[i] && dueDay[i] < day) {
                    reminded[i]++;
                    many++;
                }
            }
            return many;
        }
    }

    /** Who hands a sum of weights in has seen that it is above 0. */
    private static final class Houses {
        private final int[] weights = new int[HOUSES];

        private int sumOfWeights() {
            int sum = 0;
            for (int i = 0; i < HOUSES; i++) {
                sum += weights[i];
            }
            return sum;
        }

        private int partOf(int house, int cents, int sum) {
            int left = cents;
            int housesBefore = 0;
            for (int i = 0; i < HOUSES; i++) {
                left -= roundedPart(i, cents, sum);
                if (comesBefore(i, house, cents, sum)) {
                    housesBefore++;
                }
            }
            int part = roundedPart(house, cents, sum);
            return housesBefore < left ? part + 1 : part;
        }

        private int roundedPart(int house, int cents, int sum) {
            return (int) ((long) cents * weights[house] / sum);
        }

        private long remainder(int house, int cents, int sum) {
            return (long) cents * weights[house] % sum;
        }

        private boolean comesBefore(int one, int other, int cents, int sum) {
            long ofOne = remainder(one, cents, sum);
            long ofOther = remainder(other, cents, sum);
            return ofOne > ofOther || (ofOne == ofOther && one < other);
        }
    }

    private static final class Grants {
        private final int[] purpose = new int[MOST_GRANTS];
        private final int[] left = new int[MOST_GRANTS];
        private int count = 0;

        private int add(int newPurpose, int newCents) {
            purpose[count] = newPurpose;
            left[count] = newCents;
            count++;
            return count - 1;
        }
    }

    /** The balances, and the rows of the batch that is not posted yet. */
    private static final class Ledger {
        private final long[] balances = new long[ACCOUNTS * YEARS];
        private final int[] accounts = new int[MOST_ROWS];
        private final int[] cents = new int[MOST_ROWS];
        private int rows = 0;

        private int cellOf(int account, int year) {
            return account * YEARS + year;
        }

        private void addRow(int account, int newCents) {
            accounts[rows] = account;
            cents[rows] = newCents;
            rows++;
        }

        private int sumOfRows() {
            int sum = 0;
            for (int i = 0; i < rows; i++) {
                sum += cents[i];
            }
            return sum;
        }

        private void bookRows(int year) {
            for (int i = 0; i < rows; i++) {
                balances[cellOf(accounts[i], year)] += cents[i];
            }
        }
    }
}
