import java.lang.reflect.Array;
import java.lang.reflect.Field;
import java.lang.reflect.Modifier;
import java.util.ArrayDeque;
import java.util.Collections;
import java.util.Deque;
import java.util.IdentityHashMap;
import java.util.Set;

/**
 * Terms, "All memory is rows made once": 512 calls leave an object with the very rows of its constructor; and
 * one object is small beside the room in which all calls of a run live.
 */
public final class RoomTest {
    private static final int MOST_OBJECTS = 100;
    private static final int MOST_ELEMENTS = 2_000;

    public static void main(String[] args) throws IllegalAccessException {
        CostBooks books = new CostBooks();
        Set<Object> before = objectsOf(books);
        Check.same("few objects", before.size() <= MOST_OBJECTS, true);
        Check.same("few fields and elements", elementsOf(before) <= MOST_ELEMENTS, true);
        fill(books);
        Set<Object> after = objectsOf(books);
        Check.same("as many objects as at first", after.size(), before.size());
        Check.same("the objects of the constructor", before.containsAll(after), true);
        Check.finish("RoomTest");
    }

    /** 512 calls that fill every row to its end. */
    private static void fill(CostBooks books) {
        books.budget(0, 0, 100_000_000);
        for (int i = 0; i < 60; i++) {
            books.order(0, 0, i);
            books.invoice(i, i);
        }
        Check.write(books, "1:5+7;");
        books.tariff();
        for (int i = 0; i < 60; i++) {
            books.bill(1, 60, i, i);
            books.pay(i, 1);
            books.dispute(i, true);
        }
        for (int i = 0; i < 25; i++) {
            books.sign(0x313A312B313BL, 8);
        }
        for (int i = 0; i < 20; i++) {
            books.grant(1, i);
            books.use(i, 1, i);
        }
        for (int i = 0; i < 8; i++) {
            books.row(i, 0);
        }
        books.post(0);
        for (int i = 0; i < 5; i++) {
            books.weight(i, 1_000);
            books.close(i);
        }
        for (int i = 0; i < 120; i++) {
            books.share(0, 1_000 + i);
        }
    }

    private static Set<Object> objectsOf(Object root) throws IllegalAccessException {
        Set<Object> found = Collections.newSetFromMap(new IdentityHashMap<>());
        Deque<Object> open = new ArrayDeque<>();
        open.add(root);
        while (!open.isEmpty()) {
            Object object = open.remove();
            if (found.add(object) && !object.getClass().isArray()) {
                addReferences(object, open);
            }
        }
        return found;
    }

    private static void addReferences(Object object, Deque<Object> open) throws IllegalAccessException {
        for (Field field : object.getClass().getDeclaredFields()) {
            field.setAccessible(true);
            Object value = Modifier.isStatic(field.getModifiers()) || field.getType().isPrimitive()
                    ? null : field.get(object);
            if (value != null) {
                open.add(value);
            }
        }
    }

    private static int elementsOf(Set<Object> objects) {
        int elements = 0;
        for (Object object : objects) {
            elements += object.getClass().isArray() ? Array.getLength(object)
                    : object.getClass().getDeclaredFields().length;
        }
        return elements;
    }
}
