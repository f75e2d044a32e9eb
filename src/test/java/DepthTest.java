import java.io.File;
import java.io.IOException;
import java.io.PrintWriter;
import java.io.StringWriter;
import java.io.UncheckedIOException;
import java.util.HashMap;
import java.util.HashSet;
import java.util.LinkedHashMap;
import java.util.Map;
import java.util.Optional;
import java.util.Set;
import java.util.TreeSet;
import java.util.regex.Matcher;
import java.util.regex.Pattern;
import java.util.spi.ToolProvider;

/** Rules 8 and 11 of LANGUAGE.md: calls that are no recursion go at most eight deep; what calls itself is known. */
public final class DepthTest {
    private static final int DEEPEST = 8;
    /** Its depth is carried as an argument and ends at the sixth letter. */
    private static final Set<String> RECURSIVE = Set.of("SignedOutside$Names.place:(III)V");
    private static final Check check = new Check();
    private static final Map<String, Set<String>> calls = new LinkedHashMap<>();
    private static final Map<String, String> over = new HashMap<>();

    private DepthTest() { }

    public static void main(String[] args) {
        Optional<ToolProvider> javap = ToolProvider.findFirst("javap");
        if (javap.isEmpty()) {
            System.out.println("DepthTest: no javap on this machine, nothing was measured");
            return;
        }
        readClass(javap.get(), SignedOutside.class);
        for (Class<?> inside : SignedOutside.class.getDeclaredClasses()) {
            readClass(javap.get(), inside);
            over.put(inside.getName(), inside.getSuperclass().getName());
        }
        int deepest = 0;
        for (String method : calls.keySet()) {
            deepest = Math.max(deepest, depth(method, new HashSet<>()));
        }
        System.out.println("calls go " + deepest + " deep");
        check.holds("methods were seen: " + calls.size(), calls.size() > 100);
        check.holds("calls go " + deepest + " deep", deepest >= 3 && deepest <= DEEPEST);
        check.end("DepthTest");
    }

    private static void readClass(ToolProvider javap, Class<?> c) {
        StringWriter out = new StringWriter();
        try {
            File file = new File(c.getProtectionDomain().getCodeSource().getLocation().getPath(), c.getName() + ".class");
            javap.run(new PrintWriter(out), new PrintWriter(out), "-c", "-p", "-s", file.getCanonicalPath());
        } catch (IOException e) {
            throw new UncheckedIOException(e);
        }
        Pattern head = Pattern.compile("  \\S.*?([\\w$<>.]+)\\(.*\\);");
        Pattern descriptor = Pattern.compile("    descriptor: (\\S+)");
        Pattern invoke = Pattern.compile("invoke(\\w+) .*// (?:Interface)?Method ((?:[\\w$/]+\\.)?)\"?([\\w$<>]+)\"?:(\\S+)");
        String name = "";
        String method = "";
        for (String line : out.toString().split("\n")) {
            Matcher m = head.matcher(line);
            if (m.matches()) {
                name = m.group(1).equals(c.getName()) ? "<init>" : m.group(1);
            }
            m = descriptor.matcher(line);
            if (m.matches() && m.group(1).startsWith("(")) {
                method = c.getName() + "." + name + ":" + m.group(1);
                calls.put(method, new TreeSet<>());
            }
            m = invoke.matcher(line);
            if (m.find() && calls.containsKey(method)) {
                String owner = m.group(2).isEmpty() ? c.getName() : m.group(2).substring(0, m.group(2).length() - 1);
                String kind = m.group(1).equals("virtual") ? "any " : "";
                calls.get(method).add(kind + owner + "." + m.group(3) + ":" + m.group(4));
            }
        }
    }

    /** How many calls stand open below and with this one; a call of the library counts as one. */
    private static int depth(String method, Set<String> open) {
        if (!calls.containsKey(method)) {
            return 1;
        }
        if (!open.add(method)) {
            check.holds(method + " calls itself", RECURSIVE.contains(method));
            return 0;
        }
        int deepest = 0;
        for (String called : calls.get(method)) {
            for (String target : targets(called)) {
                deepest = Math.max(deepest, depth(target, open));
            }
        }
        open.remove(method);
        return deepest + 1;
    }

    /** The method itself, or the one above it that it is taken from, and all below that stand over it. */
    private static Set<String> targets(String called) {
        Set<String> found = new TreeSet<>();
        boolean any = called.startsWith("any ");
        String plain = any ? called.substring(4) : called;
        String owner = plain.substring(0, plain.indexOf('.'));
        String rest = plain.substring(plain.indexOf('.'));
        String at = owner;
        while (over.containsKey(at) && !calls.containsKey(at + rest)) {
            at = over.get(at);
        }
        found.add(at + rest);
        for (String below : over.keySet()) {
            if (any && owner.equals(above(below, owner)) && calls.containsKey(below + rest)) {
                found.add(below + rest);
            }
        }
        return found;
    }

    private static String above(String below, String owner) {
        String at = below;
        while (over.containsKey(at) && !at.equals(owner)) {
            at = over.get(at);
        }
        return at;
    }
}
