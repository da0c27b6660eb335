import java.io.IOException;
import java.lang.reflect.Field;
import java.lang.reflect.Method;
import java.lang.reflect.Modifier;
import java.nio.file.Files;
import java.nio.file.Path;
import java.util.ArrayList;
import java.util.HashSet;
import java.util.List;
import java.util.Set;
import java.util.regex.Pattern;

/** What can be counted or searched of the rules of LANGUAGE.md (their numbers stand at the checks). */
public final class LanguageTest {
    private static final String SOURCE = "src/main/java/CostBooks.java";

    /** The class needs none of these; most of them are ruled out by 2, 4, 6 and 13. */
    private static final String[] WORDS_OUT = {
        "package", "import", "try", "catch", "finally", "synchronized", "assert", "volatile", "transient", "native",
        "strictfp", "protected", "var", "record", "enum", "interface", "instanceof", "System", "Object", "Thread",
        "equals", "hashCode", "toString", "getMessage",
    };

    private static final Set<String> MATH = Set.of("abs", "max");

    public static void main(String[] args) throws IOException {
        String code = withoutCommentsAndTexts(Files.readString(Path.of(SOURCE)));
        wordsOut(code);
        throwsOnlyWhatIsListed(code);
        mathOnlyOfWholeNumbers(code);
        shortMethods(code);
        List<Class<?>> classes = classesOf(CostBooks.class);
        Check.same("11: at most twelve classes", classes.size() <= 12, true);
        for (Class<?> type : classes) {
            lookAt(type);
        }
        Check.finish("LanguageTest");
    }

    private static String withoutCommentsAndTexts(String source) {
        return source.replaceAll("(?s)/\\*.*?\\*/", "").replaceAll("//[^\n]*", "").replaceAll("\"[^\"\n]*\"", "\"\"");
    }

    private static void wordsOut(String code) {
        for (String word : WORDS_OUT) {
            Check.same("no " + word, Pattern.compile("\\b" + word + "\\b").matcher(code).find(), false);
        }
        Check.same("2: no lambda", code.contains("->"), false);
        Check.same("2: no method reference", code.contains("::"), false);
        Check.same("5: no static block", Pattern.compile("\\bstatic\\s*\\{").matcher(code).find(), false);
        Check.same("1: one public class", code.split("\\bpublic final class\\b", -1).length, 2);
    }

    private static void throwsOnlyWhatIsListed(String code) {
        List<String> thrown = found(code, "\\bthrow\\b[^;]*;");
        Check.same("6: something is thrown", thrown.isEmpty(), false);
        for (String text : thrown) {
            boolean listed = text.matches("throw new (IllegalState|IllegalArgument|IndexOutOfBounds|Arithmetic"
                    + "|UnsupportedOperation)Exception\\(\"\"\\);");
            Check.same("6: " + text, listed, true);
        }
    }

    private static void mathOnlyOfWholeNumbers(String code) {
        for (String call : found(code, "\\bMath\\.\\w+")) {
            Check.same("4: " + call, MATH.contains(call.substring("Math.".length())), true);
        }
        Check.same("3: no fractions", Pattern.compile("\\b(double|float)\\b").matcher(code).find(), false);
    }

    private static List<String> found(String code, String pattern) {
        List<String> texts = new ArrayList<>();
        Pattern.compile(pattern).matcher(code).results().forEach(result -> texts.add(result.group()));
        return texts;
    }

    /** A method of a class inside begins four blanks further in than one of the face, and ends there. */
    private static void shortMethods(String code) {
        int since = 0;
        int line = 0;
        for (String text : code.split("\n", -1)) {
            line++;
            if (text.matches("( {4}| {8})(public|private)\\b.*\\(.*")) {
                since = line;
            }
            if (text.matches("( {4}| {8})\\}")) {
                Check.same("11: the method that begins at " + since + " is short", line - since <= 60 || since == 0, true);
                since = 0;
            }
        }
    }

    private static List<Class<?>> classesOf(Class<?> type) {
        List<Class<?>> classes = new ArrayList<>();
        classes.add(type);
        for (Class<?> inside : type.getDeclaredClasses()) {
            classes.addAll(classesOf(inside));
        }
        return classes;
    }

    private static void lookAt(Class<?> type) {
        int fields = 0;
        for (Field field : type.getDeclaredFields()) {
            boolean isStatic = Modifier.isStatic(field.getModifiers());
            fields += isStatic ? 0 : 1;
            Check.same("5: " + field, isStatic && !isConstant(field), false);
        }
        Check.same("11: fields of " + type, fields <= 20, true);
        Set<String> face = namesOfFace();
        for (Method method : type.getDeclaredMethods()) {
            Check.same("11: parameters of " + method, method.getParameterCount() <= 7, true);
            boolean isFace = type == CostBooks.class && Modifier.isPublic(method.getModifiers());
            Check.same("1: the name of " + method, !isFace && face.contains(method.getName()), false);
        }
    }

    private static boolean isConstant(Field field) {
        Class<?> type = field.getType();
        return Modifier.isFinal(field.getModifiers())
                && (type == int.class || type == long.class || type == boolean.class || type == char.class);
    }

    private static Set<String> namesOfFace() {
        Set<String> names = new HashSet<>();
        for (Method method : CostBooks.class.getMethods()) {
            names.add(method.getName());
        }
        return names;
    }
}
