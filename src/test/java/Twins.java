import java.util.List;

/** Two objects brought up alike, of which one is asked for a call more: what has that call changed? */
final class Twins {
    interface Made {
        SignedOutside make();
    }

    interface Call {
        long on(SignedOutside x);
    }

    /** Which count of STATUS a call raises. */
    static final int NO_STATUS = -1, BAD = 0, NO = 1, FULL = 2;

    private final Check check;

    Twins(Check check) {
        this.check = check;
    }

    /** The call answers as due, and nothing is changed by it but that count of STATUS. */
    void changesNothing(String name, Made made, Call call, long want, int status) {
        SignedOutside asked = made.make();
        SignedOutside twin = made.make();
        check.due(name, call.on(asked), want);
        for (int what = 0; what < 3; what++) {
            check.due(name + ": status(" + what + ") behind it", asked.status(what), twin.status(what) + (what == status ? 1 : 0));
        }
        alike(name, asked, twin);
    }

    /** All that can be seen of both, but STATUS, is alike; both are used up by it. */
    void alike(String name, SignedOutside asked, SignedOutside twin) {
        List<String> now = Probe.everything(asked);
        List<String> due = Probe.everything(twin);
        check.due(name + ": how much is seen", now.size(), due.size());
        for (int i = 0; i < Math.min(now.size(), due.size()); i++) {
            check.holds(name + " changed '" + due.get(i) + "' to '" + now.get(i) + "'", now.get(i).equals(due.get(i)));
        }
    }

    void refusedBad(String name, Made made, Call call) {
        changesNothing(name, made, call, SignedOutside.BAD, BAD);
    }

    void refusedNo(String name, Made made, Call call) {
        changesNothing(name, made, call, SignedOutside.NO, NO);
    }

    void refusedFull(String name, Made made, Call call) {
        changesNothing(name, made, call, SignedOutside.FULL, FULL);
    }

    /** The call is not refused. */
    void taken(String name, Made made, Call call) {
        SignedOutside asked = made.make();
        SignedOutside twin = made.make();
        call.on(asked);
        for (int what = 0; what < 3; what++) {
            check.due(name + " is not refused: status(" + what + ")", asked.status(what), twin.status(what));
        }
    }

    void taken(String name, Made made, Call call, long want) {
        taken(name, made, call);
        check.due(name, call.on(made.make()), want);
    }
}
