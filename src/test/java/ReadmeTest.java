import java.io.ByteArrayOutputStream;
import java.io.IOException;
import java.io.PrintStream;
import java.lang.reflect.Field;
import java.lang.reflect.Method;
import java.lang.reflect.Modifier;
import java.nio.charset.StandardCharsets;
import java.nio.file.Files;
import java.nio.file.Path;
import java.util.ArrayList;
import java.util.List;
import java.util.TreeSet;
import java.util.regex.Matcher;
import java.util.regex.Pattern;
import java.util.stream.Stream;

/** README.md is true: its example, the calls and constants, and the paths and tests that it names. */
public final class ReadmeTest {
    // The first cell of a row of a table.
    private static final Pattern ROW = Pattern.compile("(?m)^\\| `([^`]+)` \\| (.*?) \\|");
    private static final Pattern CALL = Pattern.compile("(\\w+)\\((.*)\\)");
    private static final Pattern BLOCK = Pattern.compile("(?ms)^```(\\w+)\\n(.*?)^```$");

    private static String page = "";

    public static void main(String[] args) throws IOException {
        page = Files.readString(Path.of("README.md"));
        theExample();
        theCommands();
        theCalls();
        theConstants();
        thePaths();
        theTests();
        Check.end("ReadmeTest");
    }

    private static List<String> blocks(String kind) {
        List<String> blocks = new ArrayList<>();
        Matcher block = BLOCK.matcher(page);
        while (block.find()) {
            if (block.group(1).equals(kind)) {
                blocks.add(block.group(2));
            }
        }
        return blocks;
    }

    private static void theExample() throws IOException {
        String code = Files.readString(Path.of("src/example/java/Example.java"));
        Check.due("the page's example", blocks("java"), List.of(code));
        PrintStream before = System.out;
        ByteArrayOutputStream printed = new ByteArrayOutputStream();
        System.setOut(new PrintStream(printed, true, StandardCharsets.UTF_8));
        try {
            Example.main(new String[0]);
        } finally {
            System.setOut(before);
        }
        Check.due("what the example prints", List.of(printed.toString(StandardCharsets.UTF_8)), blocks("text"));
    }

    /** Each file that a command names is there, or a pattern of some that are; each class that it runs, too. */
    private static void theCommands() throws IOException {
        String commands = String.join("", blocks("sh"));
        Matcher path = Pattern.compile("\\S+/\\S+").matcher(commands);
        int count = 0;
        while (path.find()) {
            count++;
            String name = path.group().replace("*.java", "");
            Check.yes("a command's file: " + path.group(), Files.exists(Path.of(name)));
        }
        Check.yes("the commands name files", count > 3);
        Check.yes("the commands run the example", commands.contains("java -cp out Example\n"));
        Check.yes("the commands run a test", commands.contains("java -cp out PeopleTest\n"));
        Check.yes("the commands run all tests", commands.contains(".ci/run\n"));
    }

    private static void theCalls() {
        TreeSet<String> told = new TreeSet<>();
        Matcher row = ROW.matcher(page);
        while (row.find()) {
            Matcher call = CALL.matcher(row.group(1));
            if (call.matches()) {
                int parameters = call.group(2).isEmpty() ? 0 : call.group(2).split(", ").length;
                Check.yes("told once: " + call.group(1), told.add(call.group(1) + " of " + parameters));
            }
        }
        TreeSet<String> there = new TreeSet<>();
        for (Method each : Ferryroster.class.getDeclaredMethods()) {
            if (Modifier.isPublic(each.getModifiers())) {
                there.add(each.getName() + " of " + each.getParameterCount());
            }
        }
        Check.due("the calls on the page", told, there);
    }

    private static void theConstants() {
        TreeSet<String> told = new TreeSet<>();
        Matcher row = ROW.matcher(page);
        while (row.find()) {
            if (row.group(2).matches("\\d+")) {
                told.add(row.group(1) + " = " + row.group(2));
            }
        }
        Matcher none = Pattern.compile("`(NONE)`, (-1), is nobody").matcher(page);
        while (none.find()) {
            told.add(none.group(1) + " = " + none.group(2));
        }
        TreeSet<String> there = new TreeSet<>();
        for (Field each : Ferryroster.class.getDeclaredFields()) {
            if (Modifier.isPublic(each.getModifiers())) {
                there.add(each.getName() + " = " + numberOf(each));
            }
        }
        Check.due("the constants on the page", told, there);
    }

    private static int numberOf(Field constant) {
        try {
            return constant.getInt(null);
        } catch (IllegalAccessException e) {
            throw new AssertionError(constant.getName(), e);
        }
    }

    private static void thePaths() {
        int count = 0;
        Matcher row = ROW.matcher(page);
        while (row.find()) {
            if (row.group(1).contains("/") || row.group(1).endsWith(".md")) {
                count++;
                Check.yes("there is " + row.group(1), Files.exists(Path.of(row.group(1))));
            }
        }
        Check.yes("the page names paths", count > 5);
    }

    private static void theTests() throws IOException {
        TreeSet<String> told = new TreeSet<>();
        Matcher row = ROW.matcher(page);
        while (row.find()) {
            if (row.group(1).endsWith("Test")) {
                told.add(row.group(1));
            }
        }
        TreeSet<String> there = new TreeSet<>();
        try (Stream<Path> files = Files.list(Path.of("src/test/java"))) {
            files.map(each -> each.getFileName().toString()).filter(each -> each.endsWith("Test.java"))
                    .forEach(each -> there.add(each.replace(".java", "")));
        }
        Check.due("the tests on the page", told, there);
    }
}
