import java.io.IOException;
import java.lang.reflect.Field;
import java.lang.reflect.Method;
import java.lang.reflect.Modifier;
import java.nio.file.Files;
import java.nio.file.Path;
import java.util.ArrayList;
import java.util.List;
import java.util.Set;
import java.util.TreeSet;
import java.util.regex.Matcher;
import java.util.regex.Pattern;

/** The public face, and the rules of LANGUAGE.md that can be seen by reflection or in the text. */
public final class RulesTest {
    private static final String[] FACE = {
        "int house()", "int member(int,int)", "int letter(int,int,int)", "int type(int)", "int clear()", "int read()",
        "int frank(int,int)", "int pay(int)", "int moves(int,int)", "int day()", "int undo()", "int of(int,int)",
        "int about(int,int)", "int now(int)", "int may(int)", "int all(int)", "int fewest()", "int stand(int,int)",
        "int penny()", "int cover(int,int,int)", "int note(int,int,int)", "int forget(int)", "int where(int,int,int)",
        "int look(int,int)", "int forged(int)", "int is(int)", "int sell(int,int,int)", "int found(int)",
        "int sessions(int,int)", "long part(int)", "int image(int)", "int from(int)", "int status(int)",
        "int count(int)", "long digest()"};
    private static final Check check = new Check();

    private RulesTest() { }

    public static void main(String[] args) throws IOException {
        face();
        for (Class<?> inside : SignedOutside.class.getDeclaredClasses()) {
            insideClass(inside);
        }
        check.holds("some twelve classes", SignedOutside.class.getDeclaredClasses().length + 1 <= 12);
        sizes(SignedOutside.class);
        source(Files.readString(Path.of(args.length > 0 ? args[0] : "src/main/java/SignedOutside.java")));
        check.end("RulesTest");
    }

    private static String told(Method method) {
        StringBuilder out = new StringBuilder(method.getReturnType().getName());
        out.append(' ').append(method.getName()).append('(');
        for (int i = 0; i < method.getParameterCount(); i++) {
            out.append(i > 0 ? "," : "").append(method.getParameterTypes()[i].getName());
        }
        return out.append(')').toString();
    }

    private static void face() {
        Class<?> c = SignedOutside.class;
        check.holds("public and final", Modifier.isPublic(c.getModifiers()) && Modifier.isFinal(c.getModifiers()));
        check.due("constructors", c.getDeclaredConstructors().length, 1);
        check.holds("a public one", Modifier.isPublic(c.getDeclaredConstructors()[0].getModifiers()));
        Set<String> wanted = new TreeSet<>(List.of(FACE));
        Set<String> there = new TreeSet<>();
        Set<String> names = new TreeSet<>();
        for (Method m : c.getDeclaredMethods()) {
            if (!Modifier.isPrivate(m.getModifiers())) {
                there.add(told(m));
                names.add(m.getName());
                check.holds(m + " is public, of the object", Modifier.isPublic(m.getModifiers()) && !Modifier.isStatic(m.getModifiers()));
            }
        }
        check.holds("the methods of the face: " + there, there.equals(wanted));
        List<Class<?>> all = new ArrayList<>(List.of(c.getDeclaredClasses()));
        all.add(c);
        for (Class<?> one : all) {
            for (Method m : one.getDeclaredMethods()) {
                check.holds(m + " bears no public name", one == c && Modifier.isPublic(m.getModifiers()) || !names.contains(m.getName()));
            }
        }
        Set<String> fields = new TreeSet<>();
        for (Field f : c.getDeclaredFields()) {
            if (!Modifier.isPrivate(f.getModifiers())) {
                fields.add(f.getName());
            }
        }
        check.holds("the constants of the face: " + fields, fields.equals(new TreeSet<>(List.of("NONE", "BAD", "NO", "FULL"))));
    }

    private static void insideClass(Class<?> c) {
        check.holds(c + " is static and not public", Modifier.isStatic(c.getModifiers())
            && !Modifier.isPublic(c.getModifiers()) && !Modifier.isProtected(c.getModifiers()));
        check.due("classes inside " + c, c.getDeclaredClasses().length, 0);
        sizes(c);
    }

    private static void sizes(Class<?> c) {
        int fields = 0;
        for (Field f : c.getDeclaredFields()) {
            check.holds(f + " is of a type that the rules leave", isLeft(f.getType()));
            if (Modifier.isStatic(f.getModifiers())) {
                check.holds(f + " is final", Modifier.isFinal(f.getModifiers()));
                check.holds(f + " is a constant", STATIC_TYPES.contains(f.getType()));
            } else {
                fields++;
            }
        }
        check.holds("some twenty fields in " + c, fields <= 20);
        for (Method m : c.getDeclaredMethods()) {
            check.holds(m + " takes seven at most", m.getParameterCount() <= 7);
            check.holds(m + " answers a type that the rules leave", m.getReturnType() == void.class || isLeft(m.getReturnType()));
            for (Class<?> type : m.getParameterTypes()) {
                check.holds(m + " takes types that the rules leave", isLeft(type));
            }
        }
    }

    private static final Set<Class<?>> STATIC_TYPES = Set.of(int.class, long.class, boolean.class, char.class, String.class,
        int[].class, long[].class, char[].class, byte[].class);

    /** Rule 3: numbers, rows of them, own classes, rows of these, texts. */
    private static boolean isLeft(Class<?> type) {
        Class<?> inner = type.isArray() ? type.getComponentType() : type;
        boolean own = inner.getName().startsWith("SignedOutside");
        boolean table = inner.isArray() && inner.getComponentType().isPrimitive();
        return inner.isPrimitive() || own || table || type == String.class || type == StringBuilder.class;
    }

    private static void source(String text) {
        String code = text.replaceAll("(?s)/\\*.*?\\*/", "").replaceAll("//[^\n]*", "").replaceAll("\"[^\"\n]*\"", "\"\"");
        String[] words = {"throw", "throws", "try", "catch", "finally", "synchronized", "assert", "double", "float",
            "volatile", "transient", "native", "System.out", "Random", "Thread", "Object", "hashCode", "toString", "package"};
        for (String word : words) {
            check.holds("no " + word, !Pattern.compile("\\b" + Pattern.quote(word) + "\\b").matcher(code).find());
        }
        for (String sign : new String[] {"->", "::", "Exact(", "@", "\" +", "+ \"", "static {", "while (true)", "for (;;)"}) {
            check.holds("no " + sign, !code.contains(sign));
        }
        Matcher imports = Pattern.compile("import ([^;]+);").matcher(code);
        while (imports.find()) {
            check.holds(imports.group(1), Set.of("java.util.Arrays", "java.util.ArrayList", "java.util.List").contains(imports.group(1)));
        }
        Matcher library = Pattern.compile("\\b(System|Arrays|Math|Integer|Long)\\.(\\w+)").matcher(code);
        Set<String> listed = Set.of("System.arraycopy", "Arrays.copyOf", "Arrays.copyOfRange", "Arrays.fill", "Math.max", "Math.min",
            "Math.abs", "Math.floorDiv", "Math.floorMod", "Integer.compare", "Integer.max", "Integer.min", "Integer.bitCount",
            "Long.compare", "Long.max", "Long.min", "Long.bitCount");
        while (library.find()) {
            check.holds(library.group(), listed.contains(library.group()));
        }
        methodLengths(text.split("\n"));
    }

    /** A method begins at a line that ends in ") {" and is no statement, and ends at a brace of the same depth. */
    private static void methodLengths(String[] lines) {
        Pattern head = Pattern.compile("( +)(?!if|for|while|switch|else|return)[a-z].*\\) \\{");
        int methods = 0;
        for (int i = 0; i < lines.length; i++) {
            Matcher matcher = head.matcher(lines[i]);
            if (matcher.matches() && !lines[i].contains("=") ) {
                int end = i;
                while (end < lines.length && !lines[end].equals(matcher.group(1) + "}")) {
                    end++;
                }
                methods++;
                check.holds("short: " + lines[i].trim(), end - i + 1 <= 60);
            }
        }
        check.holds("methods were seen", methods > 60);
    }
}
