import java.lang.reflect.InvocationTargetException;
import java.lang.reflect.Method;
import java.util.Arrays;
import java.util.HashMap;
import java.util.List;
import java.util.Map;
import java.util.Random;
import java.util.TreeMap;

/**
 * All promises: long runs of calls by chance, near the edges that the state has just then, are answered as
 * PlainBooks answers them; and each refusal that the document tells comes up often.
 */
public final class ModelTest {
    private static final int RUNS = 2_500;
    private static final int CALLS = 512;
    private static final int LEAST_OF_EACH = 20;

    private static final String[] NAMES = {
        "budget", "budget", "budget", "budgetAt", "band", "order", "order", "order", "order", "invoice", "invoice",
        "cancel", "sign", "sign", "sign", "sign", "tariff", "place", "bill", "bill", "bill", "bill", "pay", "pay",
        "pay", "dispute", "dispute", "remind", "billAt", "billAt", "weight", "share", "share", "grant", "use", "use",
        "row", "row", "row", "row", "post", "balance", "balance", "close", "forecast"};

    private static final Map<String, Method> REAL = methodsOf(CostBooks.class);
    private static final Map<String, Method> PLAIN = methodsOf(PlainBooks.class);
    private static final Map<String, Integer> SEEN = new TreeMap<>();

    private final Random chance;
    private final PlainBooks plain = new PlainBooks();
    private final CostBooks real = new CostBooks();
    /** What is still to be written of the text that the run is about to sign. */
    private String text = "";

    private ModelTest(Random chance) {
        this.chance = chance;
    }

    public static void main(String[] args) {
        Random seeds = new Random(24);
        for (int run = 0; run < RUNS; run++) {
            new ModelTest(new Random(seeds.nextLong())).run("run " + run);
        }
        for (Method method : REAL.values()) {
            seenOften(method.getName() + " answers");
            for (Class<?> refusal : method.getExceptionTypes()) {
                seenOften(method.getName() + " throws." + refusal.getSimpleName());
            }
        }
        Check.finish("ModelTest");
    }

    private static void seenOften(String outcome) {
        Check.same(outcome + " often enough", SEEN.getOrDefault(outcome, 0) >= LEAST_OF_EACH, true);
    }

    private static Map<String, Method> methodsOf(Class<?> type) {
        Map<String, Method> methods = new HashMap<>();
        for (Method method : type.getDeclaredMethods()) {
            if (Arrays.asList(NAMES).contains(method.getName())) {
                methods.put(method.getName(), method);
            }
        }
        return methods;
    }

    private void run(String run) {
        int seldom = 1 << chance.nextInt(8);
        // A tidy run reads each text as soon as it is written; another one lets the tape fill up.
        boolean isTidy = chance.nextInt(4) > 0;
        // With one favourite to a run, the rows of a fixed length fill up.
        String favourite = NAMES[chance.nextInt(NAMES.length)];
        for (int i = 0; i < CALLS; i++) {
            String name = chance.nextInt(3) == 0 ? favourite : NAMES[chance.nextInt(NAMES.length)];
            if (name.equals("close") && chance.nextInt(seldom) > 0) {
                name = "order";
            }
            if (name.equals("tariff") && !isWritten() && chance.nextInt(20) > 0) {
                name = "sign";
            }
            if (name.equals("sign") && isTidy && isWritten()) {
                name = "tariff";
            }
            Object[] arguments = argumentsOf(name);
            String due = outcome(PLAIN.get(name), plain, arguments);
            String got = outcome(REAL.get(name), real, arguments);
            Check.same(run + ", call " + i + ", " + name + Arrays.toString(arguments), got, due);
            SEEN.merge(name + (due.startsWith("throws") ? " " + due : " answers"), 1, Integer::sum);
        }
    }

    private boolean isWritten() {
        return text.isEmpty() && plain.tape.length() > 0;
    }

    private static String outcome(Method method, Object books, Object[] arguments) {
        try {
            return String.valueOf(method.invoke(books, arguments));
        } catch (InvocationTargetException e) {
            RuntimeException thrown = (RuntimeException) e.getCause();
            return Check.isOfMachine(thrown) ? "the machine's " + thrown
                    : "throws." + thrown.getClass().getSimpleName();
        } catch (IllegalAccessException e) {
            return e.toString();
        }
    }

    private Object[] argumentsOf(String name) {
        switch (name) {
            case "budget":
            case "order":
                return budgetOrOrder(name);
            case "budgetAt":
                return new Object[] {number(4), number(9), number(3)};
            case "band":
                return new Object[] {within(0, 1_000)};
            case "invoice":
                return invoice();
            case "cancel":
                return new Object[] {number(plain.orders.size() - 1)};
            case "sign":
                return sign();
            case "bill":
                return new Object[] {billKind(), minutes(), within(0, PlainBooks.MOST), within(0, 9_999)};
            case "pay":
                return pay();
            case "dispute":
                return new Object[] {number(plain.bills.size() - 1), chance.nextBoolean()};
            case "remind":
                return new Object[] {chance.nextInt(3) > 0 ? dueDayNearby() : within(0, 9_999)};
            case "billAt":
                return new Object[] {number(plain.bills.size() - 1), number(3)};
            case "weight":
                return new Object[] {number(5), within(0, chance.nextBoolean() ? 1_000 : 3)};
            case "share":
                return new Object[] {number(5), within(0, PlainBooks.MOST)};
            case "grant":
                return new Object[] {number(9), within(0, PlainBooks.MOST)};
            case "use":
                return use();
            case "row":
                return new Object[] {number(9), rowCents()};
            case "post":
            case "close":
                return new Object[] {number(4)};
            case "balance":
                return new Object[] {number(9), number(4)};
            case "forecast":
                return new Object[] {number(chance.nextBoolean() ? 4 : 1), number(3), within(0, 365)};
            default:
                return new Object[0];
        }
    }

    /** Mostly a known number, among them the last; sometimes the one behind it, or a wild one. */
    private int number(int last) {
        int which = chance.nextInt(40);
        if (which == 0) {
            return last + 1;
        }
        if (which == 1) {
            return -1;
        }
        if (which == 2) {
            return chance.nextInt();
        }
        return last <= 0 || which < 6 ? last : chance.nextInt(last + 1);
    }

    private int within(int least, int most) {
        switch (chance.nextInt(24)) {
            case 0:
                return least - 1;
            case 1:
                return most + 1;
            case 2:
                return least;
            case 3:
                return most;
            case 4:
                return chance.nextInt();
            case 5:
            case 6:
            case 7:
                return least + chance.nextInt(most - least + 1);
            default:
                return least + chance.nextInt(Math.min(most - least, 1_000) + 1);
        }
    }

    private int near(long number) {
        return (int) number + chance.nextInt(3) - 1;
    }

    private Object[] budgetOrOrder(String name) {
        // Few budgets, so that they fill up; and the later years now and then.
        int year = number(chance.nextInt(3) > 0 ? 1 : 4);
        int kind = number(chance.nextInt(3) > 0 ? 2 : 9);
        List<Integer> budget = List.of(year, kind);
        boolean isOrder = name.equals("order");
        long edge = isOrder ? plain.free(budget) : plain.held(budget) + plain.spent(budget);
        int cents = within(0, PlainBooks.MOST);
        if (chance.nextInt(4) == 0) {
            cents = near(edge);
        } else if (isOrder && chance.nextBoolean()) {
            cents = chance.nextInt((int) edge / 4 + 1);
        }
        return new Object[] {year, kind, cents};
    }

    private Object[] invoice() {
        int order = number(plain.orders.size() - 1);
        int cents = within(0, PlainBooks.MOST);
        if (order >= 0 && order < plain.orders.size() && chance.nextInt(6) > 0) {
            long ordered = plain.orders.get(order).cents;
            long[] edges = {ordered, ordered + plain.bandOf(order), ordered - plain.bandOf(order),
                ordered + plain.free(plain.orders.get(order).budget)};
            cents = near(edges[chance.nextInt(edges.length)]);
        }
        return new Object[] {order, cents};
    }

    private Object[] sign() {
        if (text.isEmpty()) {
            text = TextsByChance.next(chance);
        }
        int n = Math.min(text.length(), 1 + chance.nextInt(8));
        if (n == 0 || chance.nextInt(20) == 0) {
            return new Object[] {chance.nextLong(), within(1, 8)};
        }
        long bytes = chance.nextLong();
        for (int i = 0; i < n; i++) {
            bytes = bytes << 8 | text.charAt(i);
        }
        text = text.substring(n);
        return new Object[] {bytes, n};
    }

    private int billKind() {
        List<Integer> kinds = List.copyOf(plain.charges.keySet());
        return kinds.isEmpty() || chance.nextInt(5) == 0 ? number(9) : kinds.get(chance.nextInt(kinds.size()));
    }

    private int minutes() {
        return chance.nextBoolean() ? near(60L * chance.nextInt(1_667)) : within(0, 100_000);
    }

    private Object[] pay() {
        int bill = number(plain.bills.size() - 1);
        int cents = within(1, PlainBooks.MOST);
        if (bill >= 0 && bill < plain.bills.size() && chance.nextInt(3) == 0) {
            cents = near(plain.bills.get(bill).cents - plain.bills.get(bill).paid());
        }
        return new Object[] {bill, cents};
    }

    private int dueDayNearby() {
        return plain.bills.isEmpty() ? 0 : near(plain.bills.get(chance.nextInt(plain.bills.size())).due);
    }

    private Object[] use() {
        int grant = number(plain.grants.size() - 1);
        int purpose = number(9);
        int cents = within(0, PlainBooks.MOST);
        if (grant >= 0 && grant < plain.grants.size() && chance.nextInt(6) > 0) {
            purpose = plain.grants.get(grant).purpose;
            cents = chance.nextBoolean() ? cents : near(plain.grants.get(grant).left);
        }
        return new Object[] {grant, purpose, cents};
    }

    private int rowCents() {
        int toZero = (int) -plain.sumOfBatch();
        switch (chance.nextInt(4)) {
            case 0:
                return near(toZero);
            case 1:
                return within(-PlainBooks.MOST, PlainBooks.MOST);
            default:
                return toZero == 0 ? chance.nextInt(2_001) - 1_000 : toZero;
        }
    }
}
