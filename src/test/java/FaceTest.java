import java.lang.reflect.Constructor;
import java.lang.reflect.Field;
import java.lang.reflect.Method;
import java.lang.reflect.Modifier;
import java.util.Arrays;
import java.util.Set;
import java.util.TreeSet;
import java.util.stream.Collectors;

/** The public face of the document, with what each method may throw, and nothing beside it. */
public final class FaceTest {
    private static final String A = " IllegalArgumentException";
    private static final String I = " IndexOutOfBoundsException";
    private static final String S = " IllegalStateException";
    private static final String U = " UnsupportedOperationException";
    private static final String M = " ArithmeticException";

    private static final String[] FACE = {
        "void budget(int,int,int)" + A + I + S,
        "int budgetAt(int,int,int)" + A,
        "void band(int)" + I,
        "int order(int,int,int)" + A + I + S + U,
        "void invoice(int,int)" + A + I + S,
        "void cancel(int)" + A + S,
        "int sign(long,int)" + I + U,
        "int tariff()" + S,
        "int place()",
        "int bill(int,int,int,int)" + A + I + S + U,
        "int pay(int,int)" + A + I + S,
        "void dispute(int,boolean)" + A + S,
        "int remind(int)" + I,
        "int billAt(int,int)" + A,
        "void weight(int,int)" + A + I,
        "int share(int,int)" + A + I + M,
        "int grant(int,int)" + A + I + U,
        "int use(int,int,int)" + A + I + S,
        "int row(int,int)" + A + I + U,
        "int post(int)" + A + S,
        "long balance(int,int)" + A,
        "void close(int)" + A + S,
        "long forecast(int,int,int)" + A + I + M,
    };

    public static void main(String[] args) {
        Class<CostBooks> type = CostBooks.class;
        Check.same("public and final", type.getModifiers(), Modifier.PUBLIC | Modifier.FINAL);
        Check.same("methods", methodsOf(type), new TreeSet<>(Arrays.asList(FACE)));
        Check.same("constructors", constructorsOf(type), "[public CostBooks()]");
        for (Field field : type.getDeclaredFields()) {
            Check.same(field + " is private", Modifier.isPrivate(field.getModifiers()), true);
        }
        for (Class<?> inside : type.getDeclaredClasses()) {
            lookAtClassInside(inside);
        }
        Check.finish("FaceTest");
    }

    private static Set<String> methodsOf(Class<?> type) {
        Set<String> texts = new TreeSet<>();
        for (Method method : type.getDeclaredMethods()) {
            if (!Modifier.isPrivate(method.getModifiers())) {
                texts.add(textOf(method));
            }
        }
        return texts;
    }

    private static String textOf(Method method) {
        String types = Arrays.stream(method.getParameterTypes()).map(Class::getName).collect(Collectors.joining(","));
        String thrown = Arrays.stream(method.getExceptionTypes()).map(e -> " " + e.getSimpleName())
                .collect(Collectors.joining());
        return method.getReturnType() + " " + method.getName() + "(" + types + ")" + thrown;
    }

    private static String constructorsOf(Class<?> type) {
        Constructor<?>[] all = type.getDeclaredConstructors();
        return Arrays.toString(all);
    }

    private static void lookAtClassInside(Class<?> inside) {
        int modifiers = inside.getModifiers();
        Check.same(inside + " is static", Modifier.isStatic(modifiers), true);
        Check.same(inside + " is not public", Modifier.isPublic(modifiers) || Modifier.isProtected(modifiers), false);
        for (Field field : inside.getDeclaredFields()) {
            int kind = field.getModifiers();
            Check.same(field + " is no static state", Modifier.isStatic(kind) && !Modifier.isFinal(kind), false);
        }
    }
}
