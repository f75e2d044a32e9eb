import java.lang.reflect.Method;
import java.util.ArrayList;
import java.util.Arrays;
import java.util.List;
import java.util.Map;
import java.util.Random;
import java.util.TreeMap;

/** Runs of 512 calls, drawn from fixed seeds, on the class and on the model: all answers must be alike. */
public final class ModelTest {
    private static final int RUNS = 1500;
    private static final String[] NAMES = {
        "house", "member", "letter", "type", "clear", "read", "frank", "pay", "moves", "day", "undo", "of", "about",
        "now", "may", "all", "fewest", "stand", "penny", "cover", "note", "forget", "where", "look", "forged", "is",
        "sell", "found", "sessions", "part", "image", "from", "status", "count", "digest"};
    /** How often each is called, in the order of the names. */
    private static final int[] OFTEN = {
        1, 12, 14, 6, 2, 4, 40, 8, 16, 20, 20, 6, 6,
        4, 8, 10, 6, 3, 4, 16, 16, 3, 8, 8, 12, 12,
        12, 5, 8, 4, 3, 5, 3, 6, 4};

    private static final Check check = new Check();
    private static final Map<String, Integer> seen = new TreeMap<>();

    private ModelTest() { }

    public static void main(String[] args) throws ReflectiveOperationException {
        for (int run = 0; run < RUNS; run++) {
            oneRun(run);
        }
        texts();
        everyKindOfAnswerWasSeen();
        check.end("ModelTest");
    }

    private static void oneRun(int run) throws ReflectiveOperationException {
        Random random = new Random(run);
        SignedOutside real = new SignedOutside();
        Model model = new Model();
        int near = random.nextInt(3);
        for (int call = 0; call < 512; call++) {
            String name = draw(random);
            int[] args = arguments(name, random, near, model);
            if (call % 64 == 0 && random.nextInt(3) == 0) {
                call += typeText(random, real, model, run);
                name = "read";
                args = new int[0];
            }
            compare(run, name, args, real, model);
            check.due("run " + run + ": digest behind " + name + Arrays.toString(args), real.digest(), model.digest());
        }
        for (int what = 0; what < 3; what++) {
            compare(run, "status", new int[] {what}, real, model);
        }
    }

    private static String draw(Random random) {
        int at = random.nextInt(Arrays.stream(OFTEN).sum());
        int i = 0;
        while (at >= OFTEN[i]) {
            at -= OFTEN[i++];
        }
        return NAMES[i];
    }

    private static void compare(int run, String name, int[] args, SignedOutside real, Model model)
            throws ReflectiveOperationException {
        long want = call(model, name, args);
        long got = call(real, name, args);
        check.due("run " + run + ": " + name + Arrays.toString(args), got, want);
        String kind = want == -2 ? "BAD" : want == -3 ? "NO" : want == -4 ? "FULL" : want == -1 ? "NONE"
            : want <= -10 && !name.equals("digest") ? "-10" : "an answer";
        seen.merge(name + " " + kind, 1, Integer::sum);
    }

    private static final Map<String, Method> methods = new TreeMap<>();

    private static long call(Object on, String name, int[] args) throws ReflectiveOperationException {
        String key = on.getClass().getName() + "." + name;
        Method method = methods.get(key);
        if (method == null) {
            Class<?>[] types = new Class<?>[args.length];
            Arrays.fill(types, int.class);
            method = on.getClass().getMethod(name, types);
            methods.put(key, method);
        }
        Object[] boxed = new Object[args.length];
        for (int i = 0; i < args.length; i++) {
            boxed[i] = args[i];
        }
        return ((Number) method.invoke(on, boxed)).longValue();
    }

    private static int some(Random random, int low, int high) {
        int odd = random.nextInt(60);
        if (odd == 0) return low - 1;
        if (odd == 1) return high + 1;
        if (odd == 2) return random.nextInt();
        return low + random.nextInt(high - low + 1);
    }

    /** Places that lie near one another, so that most things are nearly in reach. */
    private static int place(Random random, int near) {
        if (near == 0) return some(random, 0, 99);
        if (near == 1) return some(random, 30, 75);
        return new int[] {50, 50, 50, 60, 70, 71, 40, 30, 29, 90}[random.nextInt(10)];
    }

    private static int[] arguments(String name, Random random, int near, Model model) {
        int members = Math.max(1, model.count(0));
        int letters = Math.max(1, model.count(1));
        int m = some(random, 0, members - 1);
        int l = some(random, 0, letters - 1);
        int d = random.nextInt(3) > 0 ? random.nextInt(3) : some(random, 0, random.nextBoolean() ? 9 : 99);
        switch (name) {
            case "member": return new int[] {random.nextInt(3) == 0 ? 2 : some(random, 0, 5), place(random, near)};
            case "letter": return new int[] {place(random, near), place(random, near),
                random.nextInt(3) > 0 ? 1 + random.nextInt(2) : some(random, 1, 9)};
            case "type": return new int[] {random.nextInt(8) == 0 ? some(random, 0, 127) : "house; 0129"
                .charAt(random.nextInt(11))};
            case "frank": return new int[] {l, m};
            case "pay": case "may": return new int[] {l};
            case "moves": return new int[] {m, place(random, near)};
            case "of": return new int[] {m, some(random, 0, 5)};
            case "about": return new int[] {l, some(random, 0, 4)};
            case "now": case "status": return new int[] {some(random, 0, 2)};
            case "all": return new int[] {random.nextInt(4) == 0 ? -1 : l};
            case "stand": return new int[] {m, some(random, 0, 1)};
            case "cover": return new int[] {m, d, place(random, near)};
            case "note": return new int[] {m, d, random.nextInt(3) > 0 ? new int[] {0, 5, 10, 13}[random.nextInt(4)]
                : some(random, 0, 20)};
            case "forget": case "part": case "image": case "from": return new int[] {some(random, 0, 1)};
            case "where": return new int[] {m, d, some(random, 0, 1)};
            case "look": return new int[] {m, d};
            case "forged": case "is": return new int[] {m};
            case "sell": return new int[] {m, some(random, 0, members - 1), l};
            case "found": return new int[] {some(random, 0, 10)};
            case "sessions": return new int[] {some(random, 0, 999999), some(random, 0, 60)};
            case "count": return new int[] {some(random, 0, 7)};
            default: return new int[0];
        }
    }

    private static int typeText(Random random, SignedOutside real, Model model, int run)
            throws ReflectiveOperationException {
        compare(run, "clear", new int[0], real, model);
        String text = text(random);
        for (int i = 0; i < text.length(); i++) {
            compare(run, "type", new int[] {text.charAt(i)}, real, model);
        }
        return text.length() + 1;
    }

    /** Mostly a text that can be read, or one that differs from such a one by a little. */
    private static String text(Random random) {
        List<String> items = new ArrayList<>();
        items.add("house");
        int members = 0;
        int letters = 0;
        int wanted = random.nextInt(12);
        for (int i = 0; i < wanted; i++) {
            int draw = random.nextInt(9);
            if (draw < 3) {
                items.add("member " + random.nextInt(6) + " " + (40 + random.nextInt(20)));
                members++;
            } else if (draw < 6) {
                items.add("letter " + (40 + random.nextInt(20)) + " " + random.nextInt(100) + " " + (1 + random.nextInt(3)));
                letters++;
            } else if (members > 0 && letters > 0) {
                items.add("frank " + random.nextInt(letters) + " " + random.nextInt(members));
            }
        }
        StringBuilder out = new StringBuilder();
        for (String item : items) {
            String blanks = random.nextInt(9) == 0 ? "  " : "";
            out.append(blanks).append(item).append(random.nextInt(9) == 0 ? " ;" : ";");
        }
        int spoil = random.nextInt(4) - 1;
        for (int i = 0; i < spoil && out.length() > 0; i++) {
            int at = random.nextInt(out.length());
            switch (random.nextInt(4)) {
                case 0: out.deleteCharAt(at); break;
                case 1: out.insert(at, "; 0189ahouserst-Z".charAt(random.nextInt(17))); break;
                case 2: out.setLength(at); break;
                default: out.setCharAt(at, "; 0189amberst-Z\t".charAt(random.nextInt(16)));
            }
        }
        return out.substring(0, Math.min(150, out.length()));
    }

    private static void texts() throws ReflectiveOperationException {
        Random random = new Random(77);
        for (int i = 0; i < 20000; i++) {
            SignedOutside real = new SignedOutside();
            Model model = new Model();
            typeText(random, real, model, -1);
            compare(-1, "read", new int[0], real, model);
            check.due("digest behind a text", real.digest(), model.digest());
        }
    }

    private static void everyKindOfAnswerWasSeen() {
        String[] bad = {"member", "letter", "type", "frank", "pay", "moves", "of", "now", "may", "stand", "cover", "note",
            "forget", "where", "look", "forged", "is", "sell", "found", "sessions", "part", "image", "from", "count"};
        for (String name : bad) check.holds(name + " answered BAD", seen.containsKey(name + " BAD"));
        for (String name : new String[] {"about", "all", "read"}) check.holds(name + " answered -10", seen.containsKey(name + " -10"));
        for (String name : new String[] {"frank", "pay", "undo", "sell", "from"}) check.holds(name + " answered NO", seen.containsKey(name + " NO"));
        for (String name : new String[] {"member", "letter", "cover", "note"}) check.holds(name + " answered FULL", seen.containsKey(name + " FULL"));
        for (String name : new String[] {"about", "fewest", "where", "look", "status"}) check.holds(name + " answered NONE", seen.containsKey(name + " NONE"));
        for (String name : NAMES) check.holds(name + " answered", seen.getOrDefault(name + " an answer", 0) > 500);
    }
}
