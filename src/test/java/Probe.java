import java.util.ArrayList;
import java.util.List;

/** All that can be seen of an object but STATUS, by some 250 calls that use it up. */
final class Probe {
    private Probe() { }

    static List<String> everything(SignedOutside x) {
        List<String> seen = new ArrayList<>();
        parts(x, seen);
        members(x, seen);
        letters(x, seen);
        seen.add("sessions " + x.sessions(77, 40));
        undone(x, seen, "now");
        for (int i = 0; i < 2; i++) {
            seen.add("from " + i + " " + x.from(i));
            undone(x, seen, "from " + i);
        }
        seen.add("read " + x.read());
        undone(x, seen, "the text");
        seen.add("text " + x.clear());
        return seen;
    }

    private static void parts(SignedOutside x, List<String> seen) {
        seen.add("digest " + x.digest());
        for (int what = 0; what < 8; what++) seen.add("count " + what + " " + x.count(what));
        for (int what = 0; what < 3; what++) seen.add("now " + what + " " + x.now(what));
        for (int what = 0; what < 2; what++) seen.add("part " + what + " " + x.part(what));
        seen.add("fewest " + x.fewest());
        seen.add("all " + x.all(SignedOutside.NONE));
    }

    private static void members(SignedOutside x, List<String> seen) {
        for (int m = 0; m < x.count(0); m++) {
            for (int what = 0; what < 6; what++) seen.add("of " + m + " " + what + " " + x.of(m, what));
            for (int what = 0; what < 2; what++) seen.add("stand " + m + " " + what + " " + x.stand(m, what));
            seen.add("where " + m + " " + x.where(m, 1, 0) + " " + x.where(m, 3, 1) + " look " + x.look(m, 3));
            seen.add("forged " + m + " " + x.forged(m) + " is " + x.is(m));
        }
    }

    private static void letters(SignedOutside x, List<String> seen) {
        for (int l = 0; l < x.count(1); l++) {
            for (int what = 0; what < 5; what++) seen.add("about " + l + " " + what + " " + x.about(l, what));
            seen.add("may " + l + " " + x.may(l) + " all " + x.all(l));
        }
    }

    private static void undone(SignedOutside x, List<String> seen, String when) {
        seen.add(when + " digest " + x.digest());
        for (int rest = x.count(6); rest > 0; rest--) {
            seen.add(when + " undone, " + rest + ": " + x.undo() + " " + x.digest());
        }
    }
}
