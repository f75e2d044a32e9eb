import java.lang.management.ManagementFactory;

/** A new object is small, and no call makes anything: a whole run lives in one room. */
public final class RoomTest {
    private static final int OBJECTS = 1000;
    private static final int ROUNDS = 5000;
    private static final long MOST_BYTES_OF_ONE = 12_000;
    private static final Check check = new Check();

    private RoomTest() { }

    private static final com.sun.management.ThreadMXBean bean =
        (com.sun.management.ThreadMXBean) ManagementFactory.getThreadMXBean();

    private static long made() {
        return bean.getCurrentThreadAllocatedBytes();
    }

    public static void main(String[] args) {
        SignedOutside[] objects = new SignedOutside[OBJECTS];
        made();
        long before = made();
        for (int i = 0; i < OBJECTS; i++) {
            objects[i] = new SignedOutside();
        }
        long one = (made() - before) / OBJECTS;
        System.out.println("a new object takes " + one + " bytes");
        check.holds("a new object takes " + one + " bytes", one <= MOST_BYTES_OF_ONE);
        SignedOutside x = objects[0];
        everyCall(x);
        before = made();
        for (int i = 0; i < ROUNDS; i++) {
            everyCall(x);
        }
        // The machine itself makes a little when it first measures; less than a byte a round is none.
        long made = made() - before;
        check.holds("calls made " + made + " bytes", made < ROUNDS);
        check.end("RoomTest");
    }

    private static void everyCall(SignedOutside x) {
        x.clear();
        for (int i = 0; i < TEXT.length(); i++) {
            x.type(TEXT.charAt(i));
        }
        x.read();
        x.member(2, 50);
        x.letter(50, 99, 2);
        for (int l = 0; l < 6; l++) {
            x.frank(l, l % 5);
            x.about(l, 3);
            x.may(l);
            x.all(l);
            x.sell(0, 1, l);
        }
        x.undo();
        x.pay(5);
        x.moves(0, 9);
        x.day();
        x.undo();
        for (int m = 0; m < 5; m++) {
            x.of(m, 3);
            x.stand(m, 0);
            x.cover(m, 1, 10 * m);
            x.note(m, 1, m);
            x.where(m, 1, 1);
            x.look(m, 1);
            x.forged(m);
            x.is(m);
        }
        x.now(2);
        x.fewest();
        x.penny();
        x.found(3);
        x.part(0);
        x.sessions(5, 60);
        x.image(0);
        x.from(0);
        x.forget(0);
        x.forget(1);
        x.status(0);
        x.count(3);
        x.digest();
        x.house();
    }

    private static final String TEXT = "house;member 0 50;member 1 50;member 3 50;letter 45 5 2;letter 50 99 5;frank 0 1;";
}
