import java.lang.reflect.Field;
import java.lang.reflect.Method;
import java.lang.reflect.Modifier;
import java.util.ArrayList;
import java.util.List;
import java.util.Set;
import java.util.regex.Matcher;
import java.util.regex.Pattern;

/** The rules of LANGUAGE.md that reflection or a look at the text can tell; a check's name begins with the rule's number. */
final class LanguageTests {
    private static final Set<String> IMPORTS = Set.of("java.util.NoSuchElementException", "java.util.ArrayList", "java.util.List",
            "java.util.Arrays", "java.util.Iterator");
    private static final Set<Class<?>> LIBRARY = Set.of(String.class, StringBuilder.class, Integer.class, ArrayList.class, List.class);
    private static final Set<Class<?>> STATIC = Set.of(int.class, long.class, boolean.class, char.class, String.class,
            int[].class, long[].class, char[].class, byte[].class);
    private static final Set<String> EXCEPTIONS = Set.of("IllegalStateException", "IllegalArgumentException", "IndexOutOfBoundsException",
            "ArithmeticException", "UnsupportedOperationException", "NoSuchElementException", "RuntimeException");

    static void all() {
        String source = Check.text("src/main/java/BackupPlanner.java");
        text(source);
        exceptions(source);
        methodLengths(source);
        Class<?>[] inside = BackupPlanner.class.getDeclaredClasses();
        Check.that("11: at most twelve classes, not " + (inside.length + 1), inside.length < 12, true);
        members(BackupPlanner.class);
        for (Class<?> type : inside) {
            members(type);
        }
    }

    private static void text(String source) {
        Check.that("1: no package line", found("(?m)^package ", source), List.of());
        Check.that("4: signs", found("[^\\n -~]", source), List.of());
        for (String name : found("(?m)^import .*;", source)) {
            Check.that("4: " + name, IMPORTS.contains(name.substring(7, name.length() - 1)), true);
        }
        String code = source.replaceAll("//.*|(?s)/\\*.*?\\*/", "").replaceAll("\"[^\"\n]*\"", "\"\"");
        Check.that("2: lambdas and references", found("->|::", code), List.of());
        Check.that("4: library", found("\\b(Math|Integer|Long)\\.\\w*Exact\\b|\\bSystem\\.(?!arraycopy)\\w+|\\bThread\\b|\\bObjects\\b", code), List.of());
        Check.that("6: words", found("\\b(finally|synchronized|assert|volatile|native)\\b|\\btry *\\(", code), List.of());
        Check.that("6: own answers of every object", found("\\b(equals|hashCode|toString)\\(Object|\\bhashCode\\(", code), List.of());
        Check.that("5: static blocks", found("\\bstatic *\\{", code), List.of());
        Check.that("10: joining by +", found("\"\" *\\+|\\+ *\"\"", code), List.of());
    }

    private static void exceptions(String source) {
        for (String thrown : found("\\bthrow\\b[^;]*;", source)) {
            Matcher matcher = Pattern.compile("throw new (\\w+)\\((\"[^\"]*\")?\\);").matcher(thrown);
            Check.that("6: " + thrown, matcher.matches() && EXCEPTIONS.contains(matcher.group(1)), true);
        }
        // The task itself says so: what the machine throws answers no call. This class needs no catch at all.
        Check.that("7: catches", found("\\bcatch *\\(", source), List.of());
    }

    // From the line of a method's head to the closing brace that stands below the head's first sign.
    private static void methodLengths(String source) {
        String[] lines = source.split("\n");
        for (int head = 0; head < lines.length; head++) {
            Matcher matcher = Pattern.compile("( {4}| {8})(?! )[^=]*\\) *(throws [\\w, ]+)?\\{").matcher(lines[head]);
            if (matcher.matches()) {
                int end = head;
                while (!lines[end].equals(matcher.group(1) + "}")) {
                    end++;
                }
                Check.that("11: short, not " + (end - head + 1) + " lines: " + lines[head].trim(), end - head < 60, true);
            }
        }
    }

    private static void members(Class<?> type) {
        int fields = 0;
        for (Field field : type.getDeclaredFields()) {
            if (field.isSynthetic()) {
                continue;
            }
            if (Modifier.isStatic(field.getModifiers())) {
                Check.that("5: final " + field, Modifier.isFinal(field.getModifiers()), true);
                Check.that("5: constant " + field, STATIC.contains(field.getType()) || isEnumField(field.getType()), true);
            } else {
                Check.that("3: " + field, isAllowed(field.getType(), type.isEnum()), true);
                fields++;
            }
        }
        Check.that("11: fields of " + type + ", not " + fields, fields <= 20, true);
        for (Method method : type.getDeclaredMethods()) {
            Check.that("11: parameters of " + method, method.getParameterCount() <= 7, true);
        }
    }

    private static boolean isEnumField(Class<?> type) {
        return type.isEnum() || type.isArray() && type.getComponentType().isEnum();
    }

    private static boolean isAllowed(Class<?> type, boolean inEnum) {
        if (inEnum) {
            return type == int.class || type == long.class || type == boolean.class || type == String.class;
        }
        Class<?> part = type.isArray() ? type.getComponentType() : type;
        if (part.isArray()) {
            return part.getComponentType().isPrimitive();
        }
        return part.isPrimitive() || LIBRARY.contains(part) || part.getEnclosingClass() == BackupPlanner.class;
    }

    private static List<String> found(String pattern, String text) {
        List<String> found = new ArrayList<>();
        Matcher matcher = Pattern.compile(pattern).matcher(text);
        while (matcher.find()) {
            found.add(matcher.group());
        }
        return found;
    }

    private LanguageTests() {
    }
}
