import java.lang.reflect.InvocationTargetException;
import java.lang.reflect.Method;
import java.util.ArrayList;
import java.util.Arrays;
import java.util.Comparator;
import java.util.List;
import java.util.Random;

/**
 * Calls by chance, good and wild: nothing but what the face tells is thrown, and never by the machine;
 * and a second object that gets the calls without the refused ones answers as the first does.
 */
public final class RefusalTest {
    private static final int RUNS = 1_500;
    private static final int CALLS = 250;
    private static final int PROBES = 250;
    private static final int[] EDGES = {
        Integer.MIN_VALUE, -100_000_001, -100_000_000, -1, 0, 1, 4, 5, 6, 8, 9, 10, 20, 60, 200, 365, 366, 1_000,
        1_001, 9_999, 10_000, 100_000, 100_001, 100_000_000, 100_000_001, 1_000_000_000, Integer.MAX_VALUE};

    private record Call(Method method, Object[] arguments) {
        String on(CostBooks books) {
            try {
                return String.valueOf(method.invoke(books, arguments));
            } catch (InvocationTargetException e) {
                return thrown((RuntimeException) e.getCause());
            } catch (IllegalAccessException e) {
                return e.toString();
            }
        }

        private String thrown(RuntimeException e) {
            boolean told = Arrays.asList(method.getExceptionTypes()).contains(e.getClass());
            Check.same(this + " may throw " + e, told && !Check.isOfMachine(e), true);
            return "throws " + e.getClass().getSimpleName();
        }

        @Override
        public String toString() {
            return method.getName() + Arrays.toString(arguments);
        }
    }

    public static void main(String[] args) {
        List<Method> methods = new ArrayList<>();
        for (Method method : CostBooks.class.getDeclaredMethods()) {
            if (java.lang.reflect.Modifier.isPublic(method.getModifiers())) {
                methods.add(method);
            }
        }
        methods.sort(Comparator.comparing(Method::getName));
        Random chance = new Random(2026);
        for (int run = 0; run < RUNS; run++) {
            runOnce(run, methods, chance);
        }
        Check.finish("RefusalTest");
    }

    private static void runOnce(int run, List<Method> methods, Random chance) {
        CostBooks all = new CostBooks();
        CostBooks accepted = new CostBooks();
        if (chance.nextInt(4) > 0) {
            giveTariff(all);
            giveTariff(accepted);
        }
        for (int i = 0; i < CALLS; i++) {
            Call call = callByChance(methods, chance);
            String answer = call.on(all);
            if (!answer.startsWith("throws") || changesWhenRefused(call, answer)) {
                Check.same("run " + run + ", " + call, call.on(accepted), answer);
            }
        }
        for (int i = 0; i < PROBES; i++) {
            Call call = callByChance(methods, chance);
            Check.same("run " + run + ", probe " + call, call.on(accepted), call.on(all));
        }
    }

    private static void giveTariff(CostBooks books) {
        books.sign(0x303A352B373B313AL, 8);
        books.sign(0x392B303B323A302BL, 8);
        books.sign(0x393939393939L, 6);
        books.sign(0x3B, 1);
        books.tariff();
    }

    /** The document's two: a wrong tape is used up, a batch that is not posted is empty then. */
    private static boolean changesWhenRefused(Call call, String answer) {
        String name = call.method().getName();
        return answer.equals("throws IllegalStateException") && (name.equals("tariff") || name.equals("post"));
    }

    private static Call callByChance(List<Method> methods, Random chance) {
        Method method = methods.get(chance.nextInt(methods.size()));
        // A closed year and a used up tape end a run's better part, so they come seldom.
        boolean seldom = method.getName().equals("close") || method.getName().equals("tariff");
        if (seldom && chance.nextInt(4) > 0) {
            return callByChance(methods, chance);
        }
        Class<?>[] types = method.getParameterTypes();
        Object[] arguments = new Object[types.length];
        for (int i = 0; i < types.length; i++) {
            arguments[i] = argumentByChance(types[i], chance);
        }
        return new Call(method, arguments);
    }

    private static Object argumentByChance(Class<?> type, Random chance) {
        if (type == boolean.class) {
            return chance.nextBoolean();
        }
        if (type == long.class) {
            return chance.nextInt(3) == 0 ? chance.nextLong() : 0x313A312B313BL;
        }
        switch (chance.nextInt(12)) {
            case 0:
                return EDGES[chance.nextInt(EDGES.length)];
            case 1:
                return chance.nextInt();
            case 2:
            case 3:
                return chance.nextInt(2_000) - 1_000;
            default:
                return chance.nextInt(5);
        }
    }
}
