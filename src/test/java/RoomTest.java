import com.sun.management.ThreadMXBean;
import java.lang.management.ManagementFactory;
import java.lang.reflect.Array;
import java.lang.reflect.Field;
import java.lang.reflect.Modifier;
import java.util.ArrayDeque;
import java.util.Collections;
import java.util.Deque;
import java.util.IdentityHashMap;
import java.util.Set;

/**
 * Terms, "All memory is rows made once": 512 calls leave an object with the very rows of its constructor and make
 * nothing else; and one object is small beside the room in which all calls of a run live.
 */
public final class RoomTest {
    private static final int MOST_OBJECTS = 100;
    private static final int MOST_ELEMENTS = 2_000;
    private static final int RUNS = 200;

    public static void main(String[] args) throws IllegalAccessException {
        CostBooks books = new CostBooks();
        Set<Object> before = objectsOf(books);
        Check.same("few objects", before.size() <= MOST_OBJECTS, true);
        Check.same("few fields and elements", elementsOf(before) <= MOST_ELEMENTS, true);
        fill(books);
        Set<Object> after = objectsOf(books);
        Check.same("as many objects as at first", after.size(), before.size());
        Check.same("the objects of the constructor", before.containsAll(after), true);
        callsMakeNothing();
        Check.finish("RoomTest");
    }

    /** The least object has 16 bytes: less than 16 a run is none in any of its calls. */
    private static void callsMakeNothing() {
        CostBooks[] all = new CostBooks[RUNS];
        for (int i = 0; i < RUNS; i++) {
            all[i] = new CostBooks();
        }
        fill(new CostBooks());
        Check.same("bytes are counted", bytesMade() > 0, true);
        // To ask makes objects too, as many each time.
        long asking = bytesMade();
        asking = bytesMade() - asking;
        long before = bytesMade();
        for (CostBooks books : all) {
            fill(books);
        }
        long made = bytesMade() - before - asking;
        Check.same(made + " bytes made by " + RUNS + " runs", made < 16 * RUNS, true);
    }

    private static long bytesMade() {
        ThreadMXBean threads = (ThreadMXBean) ManagementFactory.getThreadMXBean();
        return threads.getThreadAllocatedBytes(Thread.currentThread().getId());
    }

    /** 512 calls, of every method of the face, that fill every row to its end. */
    private static void fill(CostBooks books) {
        books.budget(0, 0, 100_000_000);
        for (int i = 0; i < 60; i++) {
            books.order(0, 0, i);
        }
        for (int i = 0; i < 59; i++) {
            books.invoice(i, i);
        }
        books.cancel(59);
        Check.write(books, "1:5+7;");
        books.tariff();
        for (int i = 0; i < 60; i++) {
            books.bill(1, 60, i, i);
            books.pay(i, 1);
            books.dispute(i, true);
        }
        for (int i = 0; i < 25; i++) {
            books.sign(0x313A312B313BL, 8);
        }
        for (int i = 0; i < 20; i++) {
            books.grant(1, i);
            books.use(i, 1, i);
        }
        for (int i = 0; i < 8; i++) {
            books.row(i, 0);
        }
        books.post(0);
        for (int i = 0; i < 5; i++) {
            books.weight(i, 1_000);
            books.close(i);
        }
        books.band(1_000);
        books.place();
        books.remind(9_999);
        for (int i = 0; i < 4; i++) {
            books.budgetAt(0, 0, i);
            books.billAt(0, i);
        }
        books.balance(9, 4);
        books.forecast(0, 0, 364);
        for (int i = 0; i < 107; i++) {
            books.share(i % 6, 1_000 + i);
        }
    }

    private static Set<Object> objectsOf(Object root) throws IllegalAccessException {
        Set<Object> found = Collections.newSetFromMap(new IdentityHashMap<>());
        Deque<Object> open = new ArrayDeque<>();
        open.add(root);
        while (!open.isEmpty()) {
            Object object = open.remove();
            if (found.add(object) && !object.getClass().isArray()) {
                addReferences(object, open);
            }
        }
        return found;
    }

    private static void addReferences(Object object, Deque<Object> open) throws IllegalAccessException {
        for (Field field : object.getClass().getDeclaredFields()) {
            field.setAccessible(true);
            Object value = Modifier.isStatic(field.getModifiers()) || field.getType().isPrimitive()
                    ? null : field.get(object);
            if (value != null) {
                open.add(value);
            }
        }
    }

    private static int elementsOf(Set<Object> objects) {
        int elements = 0;
        for (Object object : objects) {
            elements += object.getClass().isArray() ? Array.getLength(object)
                    : object.getClass().getDeclaredFields().length;
        }
        return elements;
    }
}
