import java.math.BigInteger;
import java.util.ArrayList;
import java.util.Collections;
import java.util.Comparator;
import java.util.HashMap;
import java.util.List;
import java.util.Map;
import java.util.TreeSet;

/**
 * The document written a second time, with the library's lists and maps and by other ways than CostBooks goes,
 * so that the two can be compared. A refusal is told by its exception, in the order of the document's Terms.
 */
final class PlainBooks {
    static final int MOST = 100_000_000;

    static final class Order {
        final List<Integer> budget;
        final int cents;
        String state = "OPEN";
        int invoiced = 0;

        Order(List<Integer> budget, int cents) {
            this.budget = budget;
            this.cents = cents;
        }
    }

    static final class Bill {
        final long cents;
        final int due;
        final List<Integer> instalments = new ArrayList<>();
        final List<Integer> reminders = new ArrayList<>();
        boolean disputed = false;

        Bill(long cents, int due) {
            this.cents = cents;
            this.due = due;
        }

        long paid() {
            return instalments.stream().mapToLong(i -> i).sum();
        }

        boolean isOpen() {
            return paid() < cents;
        }
    }

    static final class Grant {
        final int purpose;
        long left;

        Grant(int purpose, int cents) {
            this.purpose = purpose;
            this.left = cents;
        }
    }

    record Row(int account, int cents) {
    }

    final Map<List<Integer>, Integer> totals = new HashMap<>();
    final List<Order> orders = new ArrayList<>();
    final StringBuilder tape = new StringBuilder();
    final Map<Integer, int[]> charges = new HashMap<>();
    final List<Bill> bills = new ArrayList<>();
    final int[] weights = new int[6];
    final List<Grant> grants = new ArrayList<>();
    final List<Row> batch = new ArrayList<>();
    final Map<List<Integer>, Long> balances = new HashMap<>();
    final TreeSet<Integer> closed = new TreeSet<>();
    int band = 100;
    int wrongAt = -1;

    private static void unknown(boolean is) {
        if (is) {
            throw new IllegalArgumentException();
        }
    }

    private static void outside(long number, long least, long most) {
        if (number < least || number > most) {
            throw new IndexOutOfBoundsException();
        }
    }

    private static void state(boolean isWrong) {
        if (isWrong) {
            throw new IllegalStateException();
        }
    }

    private static void full(boolean is) {
        if (is) {
            throw new UnsupportedOperationException();
        }
    }

    private static boolean isNot(int number, int last) {
        return !(0 <= number && number <= last);
    }

    long held(List<Integer> budget) {
        return orders.stream().filter(o -> o.budget.equals(budget) && o.state.equals("OPEN"))
                .mapToLong(o -> o.cents).sum();
    }

    long spent(List<Integer> budget) {
        return orders.stream().filter(o -> o.budget.equals(budget) && o.state.equals("INVOICED"))
                .mapToLong(o -> o.invoiced).sum();
    }

    long free(List<Integer> budget) {
        return totals.getOrDefault(budget, 0) - held(budget) - spent(budget);
    }

    void budget(int year, int kind, int cents) {
        unknown(isNot(year, 4) || isNot(kind, 9));
        outside(cents, 0, MOST);
        List<Integer> budget = List.of(year, kind);
        state(closed.contains(year) || cents < held(budget) + spent(budget));
        totals.put(budget, cents);
    }

    long budgetAt(int year, int kind, int what) {
        unknown(isNot(year, 4) || isNot(kind, 9) || isNot(what, 3));
        List<Integer> budget = List.of(year, kind);
        return List.of((long) totals.getOrDefault(budget, 0), held(budget), spent(budget), free(budget)).get(what);
    }

    void band(int thousandths) {
        outside(thousandths, 0, 1_000);
        band = thousandths;
    }

    long order(int year, int kind, int cents) {
        unknown(isNot(year, 4) || isNot(kind, 9));
        outside(cents, 0, MOST);
        List<Integer> budget = List.of(year, kind);
        state(closed.contains(year) || cents > free(budget));
        full(orders.size() == 60);
        orders.add(new Order(budget, cents));
        return orders.size() - 1;
    }

    long bandOf(int order) {
        return BigInteger.valueOf(orders.get(order).cents).multiply(BigInteger.valueOf(band))
                .divide(BigInteger.valueOf(1_000)).longValueExact();
    }

    void invoice(int order, int cents) {
        unknown(isNot(order, orders.size() - 1));
        outside(cents, 0, MOST);
        Order ordered = orders.get(order);
        state(!ordered.state.equals("OPEN"));
        state(cents > ordered.cents + bandOf(order) || cents < ordered.cents - bandOf(order));
        state(cents > ordered.cents && cents - ordered.cents > free(ordered.budget));
        ordered.state = "INVOICED";
        ordered.invoiced = cents;
    }

    void cancel(int order) {
        unknown(isNot(order, orders.size() - 1));
        state(!orders.get(order).state.equals("OPEN"));
        orders.get(order).state = "CANCELLED";
    }

    long sign(long bytes, int n) {
        outside(n, 1, 8);
        full(tape.length() + n > 200);
        byte[] all = java.nio.ByteBuffer.allocate(8).putLong(bytes).array();
        for (int i = 8 - n; i < 8; i++) {
            tape.append((char) Byte.toUnsignedInt(all[i]));
        }
        return tape.length();
    }

    long tariff() {
        String text = tape.toString();
        tape.setLength(0);
        wrongAt = TariffWords.wrongAt(text);
        state(wrongAt >= 0);
        charges.clear();
        for (String row : text.split(";")) {
            if (!row.isEmpty()) {
                String[] parts = row.split("[:+]");
                charges.put(Integer.parseInt(parts[0]),
                        new int[] {Integer.parseInt(parts[1]), Integer.parseInt(parts[2])});
            }
        }
        return charges.size();
    }

    long place() {
        return wrongAt;
    }

    long bill(int kind, int minutes, int materials, int due) {
        unknown(isNot(kind, 9));
        outside(minutes, 0, 100_000);
        outside(materials, 0, MOST);
        outside(due, 0, 9_999);
        int[] charge = charges.getOrDefault(kind, new int[2]);
        state(charge[0] == 0 && charge[1] == 0);
        long cents = (long) charge[0] + materials;
        for (int begun = 0; begun < minutes; begun += 60) {
            cents += charge[1];
        }
        full(bills.size() == 60 || cents > 1_000_000_000);
        bills.add(new Bill(cents, due));
        return bills.size() - 1;
    }

    long pay(int bill, int cents) {
        unknown(isNot(bill, bills.size() - 1));
        outside(cents, 1, MOST);
        Bill paid = bills.get(bill);
        state(cents > paid.cents - paid.paid());
        paid.instalments.add(cents);
        return paid.cents - paid.paid();
    }

    void dispute(int bill, boolean on) {
        unknown(isNot(bill, bills.size() - 1));
        Bill told = bills.get(bill);
        state(on && (told.disputed || !told.isOpen()));
        state(!on && !told.disputed);
        told.disputed = on;
    }

    long remind(int day) {
        outside(day, 0, 9_999);
        List<Bill> late = new ArrayList<>(bills);
        late.removeIf(b -> !b.isOpen() || b.disputed || b.due >= day);
        late.forEach(b -> b.reminders.add(day));
        return late.size();
    }

    long billAt(int bill, int what) {
        unknown(isNot(bill, bills.size() - 1) || isNot(what, 3));
        Bill asked = bills.get(bill);
        return List.of(asked.cents, asked.paid(), asked.disputed ? 1L : 0L, (long) asked.reminders.size()).get(what);
    }

    void weight(int house, int w) {
        unknown(isNot(house, 5));
        outside(w, 0, 1_000);
        weights[house] = w;
    }

    long share(int house, int cents) {
        unknown(isNot(house, 5));
        outside(cents, 0, MOST);
        long sum = 0;
        for (int weight : weights) {
            sum += weight;
        }
        if (sum == 0) {
            throw new ArithmeticException();
        }
        return shares(weights, cents)[house];
    }

    /** Who asks has seen that a weight is above 0. */
    static int[] shares(int[] weights, int cents) {
        BigInteger sum = BigInteger.ZERO;
        for (int weight : weights) {
            sum = sum.add(BigInteger.valueOf(weight));
        }
        int[] parts = new int[weights.length];
        BigInteger[] remainders = new BigInteger[weights.length];
        List<Integer> houses = new ArrayList<>();
        int left = cents;
        for (int i = 0; i < weights.length; i++) {
            BigInteger product = BigInteger.valueOf(cents).multiply(BigInteger.valueOf(weights[i]));
            parts[i] = product.divide(sum).intValueExact();
            remainders[i] = product.mod(sum);
            houses.add(i);
            left -= parts[i];
        }
        // The sort is stable, so of the same remainders the lowest house stays first.
        houses.sort(Comparator.comparing((Integer i) -> remainders[i], Collections.reverseOrder()));
        for (int i = 0; i < left; i++) {
            parts[houses.get(i)]++;
        }
        return parts;
    }

    long grant(int purpose, int cents) {
        unknown(isNot(purpose, 9));
        outside(cents, 0, MOST);
        full(grants.size() == 20);
        grants.add(new Grant(purpose, cents));
        return grants.size() - 1;
    }

    long use(int grant, int purpose, int cents) {
        unknown(isNot(grant, grants.size() - 1) || isNot(purpose, 9));
        outside(cents, 0, MOST);
        Grant used = grants.get(grant);
        state(used.purpose != purpose || cents > used.left);
        used.left -= cents;
        return used.left;
    }

    long row(int account, int cents) {
        unknown(isNot(account, 9));
        outside(cents, -MOST, MOST);
        full(batch.size() == 8);
        batch.add(new Row(account, cents));
        return batch.size();
    }

    long sumOfBatch() {
        return batch.stream().mapToLong(Row::cents).sum();
    }

    long post(int year) {
        unknown(isNot(year, 4));
        List<Row> rows = List.copyOf(batch);
        long sum = sumOfBatch();
        batch.clear();
        state(sum != 0);
        int to = year;
        while (closed.contains(to)) {
            to++;
        }
        state(to > 4);
        for (Row row : rows) {
            balances.merge(List.of(row.account, to), (long) row.cents, Long::sum);
        }
        return to;
    }

    long balance(int account, int year) {
        unknown(isNot(account, 9) || isNot(year, 4));
        return balances.getOrDefault(List.of(account, year), 0L);
    }

    void close(int year) {
        unknown(isNot(year, 4));
        state(closed.contains(year));
        state(year > 0 && !closed.contains(year - 1));
        state(orders.stream().anyMatch(o -> o.budget.get(0) == year && o.state.equals("OPEN")));
        closed.add(year);
    }

    long forecast(int year, int kind, int days) {
        unknown(isNot(year, 4) || isNot(kind, 9));
        outside(days, 0, 365);
        if (days == 0) {
            throw new ArithmeticException();
        }
        BigInteger spent = BigInteger.valueOf(spent(List.of(year, kind)));
        return spent.multiply(BigInteger.valueOf(365)).divide(BigInteger.valueOf(days)).longValueExact();
    }
}
