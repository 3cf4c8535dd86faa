import java.io.IOException;
import java.lang.reflect.Constructor;
import java.lang.reflect.Executable;
import java.lang.reflect.Field;
import java.lang.reflect.Method;
import java.lang.reflect.Modifier;
import java.nio.file.Files;
import java.nio.file.Path;
import java.util.ArrayList;
import java.util.List;
import java.util.Set;
import java.util.TreeSet;
import java.util.regex.Matcher;
import java.util.regex.Pattern;

/**
 * Those rules of LANGUAGE.md that can be read off the text of the class and off its members; FaceTest looks at the rest
 * of rule 1. The other rules need a reader.
 */
public final class LanguageTest {
    private static final Path SOURCE = Path.of("src/main/java/Ferryroster.java");

    private static final Set<String> IMPORTS = Set.of("java.util.ArrayList", "java.util.List",
            "java.util.NoSuchElementException", "java.util.Iterator", "java.util.Arrays");
    private static final Set<String> EXCEPTIONS = Set.of("IllegalStateException", "IllegalArgumentException",
            "IndexOutOfBoundsException", "ArithmeticException", "UnsupportedOperationException",
            "NoSuchElementException", "RuntimeException");
    private static final Set<String> CONSTANTS = Set.of("int", "long", "boolean", "char", "class java.lang.String");

    // Words and signs that no rule leaves, or that rules 2, 3, 6 and 10 rule out.
    private static final String[] RULED_OUT = {
        "->", "::", "package ", "synchronized", "assert ", "finally", "try (", "native", "volatile", "transient",
        "static {", "getMessage", "hashCode", "equals(Object", "toString(", "Object ", "Exact(", "NaN", "Thread",
        "Random", "Scanner", "Stream", "Optional", "HashMap", "TreeMap", "Set<", "StringBuffer", "String.format",
        "String.valueOf", "Math.sqrt", "Math.random", "Math.pow", "Math.floor(", "Math.round(", "@",
    };
    // What the machine throws: no call is answered by catching it.
    private static final Pattern MACHINE_CAUGHT = Pattern.compile("catch \\([^)]*(ArrayIndexOutOfBounds"
            + "|IndexOutOfBounds|NullPointer|Arithmetic|ClassCast|NegativeArraySize|ArrayStore|Runtime|Throwable|Error"
            + "|\\bException)");

    private static String text = "";
    /** The text without comments and without what stands in quotes. */
    private static String code = "";

    public static void main(String[] args) throws IOException {
        text = Files.readString(SOURCE);
        code = withoutQuotes(withoutComments(text));
        signs();
        library();
        exceptions();
        lengths();
        List<Class<?>> classes = new ArrayList<>();
        collect(Ferryroster.class, classes);
        Check.yes("some twelve classes at most: " + classes.size(), classes.size() <= 12);
        for (Class<?> each : classes) {
            aClass(each);
            fields(each);
            parameters(each);
        }
        Check.end("LanguageTest");
    }

    private static String withoutComments(String java) {
        return Pattern.compile("/\\*.*?\\*/|//[^\\n]*", Pattern.DOTALL).matcher(java).replaceAll("");
    }

    private static String withoutQuotes(String java) {
        return Pattern.compile("\"[^\"\\n]*\"").matcher(java).replaceAll("\"\"");
    }

    private static void signs() {
        for (int i = 0; i < text.length(); i++) {
            char sign = text.charAt(i);
            if (sign != '\n' && (sign < 32 || sign > 126)) {
                Check.due("the sign at " + i, (int) sign, "one of 32 to 126");
            }
        }
        for (String line : text.split("\n")) {
            Check.yes("at most 120 signs: " + line, line.length() <= 120);
        }
        for (String each : RULED_OUT) {
            Check.no("the class says " + each, code.contains(each));
        }
    }

    /** Rule 4. */
    private static void library() {
        Matcher imports = Pattern.compile("(?m)^import (.*);$").matcher(code);
        while (imports.find()) {
            Check.yes("import of " + imports.group(1), IMPORTS.contains(imports.group(1)));
        }
        Matcher calls = Pattern.compile("\\b(System|Arrays)\\.(\\w+)").matcher(code);
        while (calls.find()) {
            boolean allowed = Set.of("arraycopy", "copyOf", "copyOfRange", "fill").contains(calls.group(2));
            Check.yes("the call of " + calls.group(), allowed);
        }
    }

    /** Rule 6, and that nothing which the machine throws is caught. */
    private static void exceptions() {
        Matcher throwing = Pattern.compile("throw ([^;]*);").matcher(code);
        while (throwing.find()) {
            Matcher made = Pattern.compile("new (\\w+)\\((\"\")?\\)").matcher(throwing.group(1));
            Check.yes("throw " + throwing.group(1), made.matches() && EXCEPTIONS.contains(made.group(1)));
        }
        Check.no("the class catches what the machine throws", MACHINE_CAUGHT.matcher(code).find());
    }

    /** Rule 11: a method ends at the bracket that stands as deep as its head. */
    private static void lengths() {
        String[] lines = text.split("\n");
        Pattern head = Pattern.compile("( {4}| {8})[^ /*}@].*\\{");
        for (int i = 0; i < lines.length; i++) {
            Matcher begins = head.matcher(lines[i]);
            if (!begins.matches() || lines[i].contains(" class ")) {
                continue;
            }
            int end = i;
            while (end < lines.length && !lines[end].equals(begins.group(1) + "}")) {
                end++;
            }
            Check.yes("some sixty lines at most: " + lines[i].trim(), end - i < 60);
        }
    }

    private static void collect(Class<?> one, List<Class<?>> classes) {
        classes.add(one);
        for (Class<?> each : one.getDeclaredClasses()) {
            collect(each, classes);
        }
    }

    /** Rules 1 and 2. */
    private static void aClass(Class<?> one) {
        int modifiers = one.getModifiers();
        boolean isTheFace = one == Ferryroster.class;
        Check.due(one + " is public", Modifier.isPublic(modifiers), isTheFace);
        Check.no(one + " is protected", Modifier.isProtected(modifiers));
        Check.due(one + " is static", Modifier.isStatic(modifiers), !isTheFace);
    }

    /** Rules 5 and 11. */
    private static void fields(Class<?> one) {
        TreeSet<String> state = new TreeSet<>();
        for (Field each : one.getDeclaredFields()) {
            if (each.isSynthetic() || one.isEnum()) {
                continue;
            }
            if (Modifier.isStatic(each.getModifiers())) {
                Check.yes(each + " is final", Modifier.isFinal(each.getModifiers()));
                Check.yes(each + " is a constant", CONSTANTS.contains(each.getType().toString())
                        || each.getType().isArray() && each.getType().getComponentType().isPrimitive());
            } else {
                state.add(each.getName());
            }
        }
        Check.yes("some twenty fields at most: " + state, state.size() <= 20);
    }

    /** Rule 11. */
    private static void parameters(Class<?> one) {
        List<Executable> calls = new ArrayList<>(List.of(one.getDeclaredMethods()));
        calls.addAll(List.<Constructor<?>>of(one.getDeclaredConstructors()));
        for (Executable each : calls) {
            Check.yes("seven parameters at most: " + each, each.getParameterCount() <= 7);
        }
        for (Method each : one.getDeclaredMethods()) {
            Check.no("no finalizer", each.getName().equals("finalize"));
        }
    }
}
