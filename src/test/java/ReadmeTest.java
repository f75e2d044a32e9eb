import java.io.IOException;
import java.lang.reflect.InvocationTargetException;
import java.lang.reflect.Method;
import java.lang.reflect.Modifier;
import java.nio.file.Files;
import java.nio.file.Path;
import java.util.HashMap;
import java.util.Map;
import java.util.Set;
import java.util.TreeSet;
import java.util.regex.Matcher;
import java.util.regex.Pattern;

/** README.md is true of the project as it stands: its example, its text, every call, every test. */
public final class ReadmeTest {
    private static final Path TESTS = Path.of("src/test/java");
    private static final Check check = new Check();

    private ReadmeTest() { }

    public static void main(String[] args) throws IOException, ReflectiveOperationException {
        String page = Files.readString(Path.of("README.md"));
        example(fenced(page, "java"));
        text(fenced(page, "text").strip());
        everyCall(page);
        everyTest(page);
        check.end("ReadmeTest");
    }

    private static String fenced(String page, String sort) {
        Matcher m = Pattern.compile("(?s)```" + sort + "\n(.*?)```").matcher(page);
        boolean there = m.find();
        check.holds("the page has a block of " + sort, there);
        return there ? m.group(1) : "";
    }

    /** Each line of the example is called in turn; a number told behind it (by its name, at the end) is due. */
    private static void example(String block) throws ReflectiveOperationException {
        Pattern line = Pattern.compile("(?:int (\\w+) = )?x\\.(\\w+)\\(([^)]*)\\);\\s*// (.*)");
        Pattern toldNumber = Pattern.compile("(?:member |letter )?(\\d+)\\b.*");
        SignedOutside x = new SignedOutside();
        Map<String, Integer> named = new HashMap<>();
        int numbers = 0;
        for (String one : block.split("\n")) {
            Matcher m = line.matcher(one);
            if (!m.matches()) {
                check.due("a line of the example", one.equals("SignedOutside x = new SignedOutside();") ? 1 : 0, 1);
                continue;
            }
            int got = call(x, m.group(2), m.group(3), named);
            if (m.group(1) != null) {
                named.put(m.group(1), got);
            }
            Matcher told = toldNumber.matcher(m.group(1) == null ? m.group(4) : afterColon(m.group(4)));
            if (told.matches()) {
                numbers++;
                check.due(one, got, Integer.parseInt(told.group(1)));
            }
        }
        check.holds("answers are told in the example", numbers >= 6);
    }

    private static String afterColon(String comment) {
        return comment.substring(comment.lastIndexOf(':') + 1).strip();
    }

    private static int call(SignedOutside x, String name, String list, Map<String, Integer> named)
            throws IllegalAccessException, InvocationTargetException {
        String[] told = list.isBlank() ? new String[0] : list.split(", ");
        Object[] numbers = new Object[told.length];
        for (int i = 0; i < told.length; i++) {
            numbers[i] = named.containsKey(told[i]) ? named.get(told[i]) : Integer.valueOf(told[i]);
        }
        for (Method m : SignedOutside.class.getDeclaredMethods()) {
            if (m.getName().equals(name) && Modifier.isPublic(m.getModifiers())) {
                return ((Number) m.invoke(x, numbers)).intValue();
            }
        }
        check.holds("a call " + name, false);
        return SignedOutside.NONE;
    }

    private static void text(String told) {
        SignedOutside x = new SignedOutside();
        int items = told.length() - told.replace(";", "").length();
        check.due("read of '" + told + "'", Houses.read(x, told), items);
    }

    /** A call stands in the table with its name and with as many numbers as it takes. */
    private static void everyCall(String page) {
        for (Method m : SignedOutside.class.getDeclaredMethods()) {
            if (Modifier.isPublic(m.getModifiers())) {
                int commas = Math.max(0, m.getParameterCount() - 1);
                String numbers = m.getParameterCount() == 0 ? "" : "\\w+" + ", \\w+".repeat(commas);
                Pattern cell = Pattern.compile("(?m)^\\| .*`" + m.getName() + "\\(" + numbers + "\\)`.* \\| ");
                check.holds("the page tells " + m.getName(), cell.matcher(page).find());
            }
        }
    }

    private static void everyTest(String page) throws IOException {
        Set<String> there = new TreeSet<>();
        try (var files = Files.list(TESTS)) {
            files.forEach(file -> there.add(file.getFileName().toString().replace(".java", "")));
        }
        for (String name : there) {
            check.holds("the page tells " + name, page.contains("`" + name + "`"));
        }
        Matcher m = Pattern.compile("`(\\w+Test)`").matcher(page);
        while (m.find()) {
            check.holds("there is a " + m.group(1), there.contains(m.group(1)));
        }
    }
}
