/**
 * "Refused, changing nothing but STATUS, the first of: BAD -2 a number is not as told; NO -3 as told; FULL -4
 * (where others are told they count as these)": each call, each of its numbers at its bounds and just beside
 * them on both sides, each reason for NO and for FULL, and which goes ahead of which.
 */
public final class RefusedTest {
    private static final int NONE = SignedOutside.NONE;
    private static final Check check = new Check();
    private static final Twins twins = new Twins(check);

    private interface Numbered {
        long on(SignedOutside x, int number);
    }

    private RefusedTest() { }

    public static void main(String[] args) {
        badInAHouse();
        badInDays();
        badWhoseNames();
        badWhereOneWas();
        badWhatThereIs();
        badInAnEmptyHouse();
        noToFrank();
        noToPay();
        noToUndo();
        noToSell();
        noToGoOnFromAnImage();
        fullOfMembers();
        fullOfLetters();
        fullOfBytes();
        fullOfCovers();
        fullOfNotes();
        badAheadOfNo();
        badAheadOfFull();
        check.end("RefusedTest");
    }

    /** A number (low .. high) of a call: refused beside its bounds, changing nothing; not refused as BAD within. */
    private static void number(String call, Twins.Made made, int low, int high, long bad, Numbered on) {
        int[] outside = {low - 1, low - 2, Integer.MIN_VALUE, high + 1, high + 2, Integer.MAX_VALUE};
        for (int v : outside) {
            twins.changesNothing(call + " of " + v, made, x -> on.on(x, v), bad, Twins.BAD);
        }
        int[] inside = {low, Math.min(low + 1, high), Math.max(low, high - 1), high};
        for (int v : inside) {
            SignedOutside x = made.make();
            int before = x.status(0);
            on.on(x, v);
            check.due(call + " of " + v + " is not BAD", x.status(0), before);
        }
    }

    private static void number(String call, int low, int high, long bad, Numbered on) {
        number(call + ", busy", Houses::busy, low, high, bad, on);
        number(call + ", crowded", Houses::crowded, low, high, bad, on);
    }

    private static void number(String call, int low, int high, Numbered on) {
        number(call, low, high, SignedOutside.BAD, on);
    }

    /** The number of a member: of two in the busy house, of five in the crowded one. */
    private static void member(String call, long bad, Numbered on) {
        number(call + ", busy", Houses::busy, 0, 1, bad, on);
        number(call + ", crowded", Houses::crowded, 0, 4, bad, on);
    }

    private static void letter(String call, long bad, Numbered on) {
        number(call + ", busy", Houses::busy, 0, 2, bad, on);
        number(call + ", crowded", Houses::crowded, 0, 5, bad, on);
    }

    private static void badInAHouse() {
        number("member's KIND", 0, 5, (x, v) -> x.member(v, 0));
        number("member's PLACE", 0, 99, (x, v) -> x.member(0, v));
        number("letter's FROM", 0, 99, (x, v) -> x.letter(v, 0, 1));
        number("letter's TO", 0, 99, (x, v) -> x.letter(0, v, 1));
        number("letter's WEIGHT", 1, 9, (x, v) -> x.letter(0, 0, v));
        number("type's byte", 0, 127, (x, v) -> x.type(v));
    }

    private static void badInDays() {
        letter("frank's LETTER", SignedOutside.BAD, (x, v) -> x.frank(v, 0));
        member("frank's MEMBER", SignedOutside.BAD, (x, v) -> x.frank(1, v));
        letter("pay's LETTER", SignedOutside.BAD, (x, v) -> x.pay(v));
        member("moves' MEMBER", SignedOutside.BAD, (x, v) -> x.moves(v, 0));
        number("moves' PLACE", 0, 99, (x, v) -> x.moves(0, v));
        member("of's MEMBER", SignedOutside.BAD, (x, v) -> x.of(v, 0));
        number("of's what", 0, 5, (x, v) -> x.of(0, v));
        letter("about's LETTER", -10, (x, v) -> x.about(v, 0));
        number("about's what", 0, 4, -10, (x, v) -> x.about(0, v));
        number("now's what", 0, 2, (x, v) -> x.now(v));
    }

    private static void badWhoseNames() {
        letter("may's LETTER", SignedOutside.BAD, (x, v) -> x.may(v));
        number("all's LETTER, busy", Houses::busy, NONE, 2, -10, (x, v) -> x.all(v));
        number("all's LETTER, crowded", Houses::crowded, NONE, 5, -10, (x, v) -> x.all(v));
        member("stand's MEMBER", SignedOutside.BAD, (x, v) -> x.stand(v, 0));
        number("stand's what", 0, 1, (x, v) -> x.stand(0, v));
    }

    private static void badWhereOneWas() {
        member("cover's MEMBER", SignedOutside.BAD, (x, v) -> x.cover(v, 0, 0));
        number("cover's DAY", 0, 99, (x, v) -> x.cover(0, v, 0));
        number("cover's PLACE", 0, 99, (x, v) -> x.cover(0, 0, v));
        member("note's MEMBER", SignedOutside.BAD, (x, v) -> x.note(v, 0, 0));
        number("note's DAY", 0, 99, (x, v) -> x.note(0, v, 0));
        number("note's n", 0, 20, (x, v) -> x.note(0, 0, v));
        number("forget's what", 0, 1, (x, v) -> x.forget(v));
        member("where's MEMBER", SignedOutside.BAD, (x, v) -> x.where(v, 0, 0));
        number("where's DAY", 0, 99, (x, v) -> x.where(0, v, 0));
        number("where's what", 0, 1, (x, v) -> x.where(0, 0, v));
        member("look's MEMBER", SignedOutside.BAD, (x, v) -> x.look(v, 0));
        number("look's DAY", 0, 99, (x, v) -> x.look(0, v));
        member("forged's MEMBER", SignedOutside.BAD, (x, v) -> x.forged(v));
        member("is's MEMBER", SignedOutside.BAD, (x, v) -> x.is(v));
        number("sell's a, busy", Houses::busy, 1, 1, SignedOutside.BAD, (x, v) -> x.sell(v, 0, 1));
        number("sell's a, crowded", Houses::crowded, 0, 3, SignedOutside.BAD, (x, v) -> x.sell(v, 4, 4));
        number("sell's b, busy", Houses::busy, 1, 1, SignedOutside.BAD, (x, v) -> x.sell(0, v, 1));
        number("sell's b, crowded", Houses::crowded, 1, 4, SignedOutside.BAD, (x, v) -> x.sell(0, v, 4));
        letter("sell's LETTER", SignedOutside.BAD, (x, v) -> x.sell(0, 1, v));
        for (int m = 0; m < 5; m++) {
            int both = m;
            twins.refusedBad("sell: alike, " + m, Houses::crowded, x -> x.sell(both, both, 4));
        }
        number("found's c", 0, 10, (x, v) -> x.found(v));
        number("sessions' SEED", 0, 999999, (x, v) -> x.sessions(v, 3));
        number("sessions' n", 0, 60, (x, v) -> x.sessions(5, v));
    }

    private static void badWhatThereIs() {
        number("part's what", 0, 1, (x, v) -> x.part(v));
        number("image's i", 0, 1, (x, v) -> x.image(v));
        number("from's i", 0, 1, (x, v) -> x.from(v));
        number("status' what", 0, 2, -1, (x, v) -> x.status(v));
        number("count's what", 0, 7, (x, v) -> x.count(v));
    }

    /** No member and no letter is there: no number of one is as told. */
    private static void badInAnEmptyHouse() {
        Twins.Made[] empty = {SignedOutside::new, () -> {
            SignedOutside x = Houses.crowded();
            x.house();
            return x;
        }, () -> {
            SignedOutside x = Houses.busy();
            x.clear();
            Houses.type(x, "house;");
            x.read();
            return x;
        }};
        for (Twins.Made made : empty) {
            for (int v = -1; v <= 1; v++) {
                int n = v;
                twins.refusedBad("no member: moves", made, x -> x.moves(n, 0));
                twins.refusedBad("no member: of", made, x -> x.of(n, 0));
                twins.refusedBad("no member: stand", made, x -> x.stand(n, 0));
                twins.refusedBad("no member: cover", made, x -> x.cover(n, 0, 0));
                twins.refusedBad("no member: note", made, x -> x.note(n, 0, 0));
                twins.refusedBad("no member: where", made, x -> x.where(n, 0, 0));
                twins.refusedBad("no member: look", made, x -> x.look(n, 0));
                twins.refusedBad("no member: forged", made, x -> x.forged(n));
                twins.refusedBad("no member: is", made, x -> x.is(n));
                twins.refusedBad("no letter: frank", made, x -> x.frank(n, n));
                twins.refusedBad("no letter: pay", made, x -> x.pay(n));
                twins.refusedBad("no letter: may", made, x -> x.may(n));
                twins.refusedBad("no letter: sell", made, x -> x.sell(0, 1, n));
                twins.changesNothing("no letter: about", made, x -> x.about(n, 0), -10, Twins.BAD);
                twins.changesNothing("no letter: all", made, x -> x.all(n), n == NONE ? 0 : -10, n == NONE ? Twins.NO_STATUS : Twins.BAD);
            }
        }
        Twins.Made letterAlone = () -> Houses.told("house;letter 0 0 1;");
        twins.refusedBad("a letter alone: frank", letterAlone, x -> x.frank(0, 0));
        twins.taken("a letter alone: may", letterAlone, x -> x.may(0), 0);
        twins.taken("a letter alone: pay", letterAlone, x -> x.pay(0), 1);
        Twins.Made memberAlone = () -> Houses.told("house;member 0 0;");
        twins.refusedBad("a member alone: frank", memberAlone, x -> x.frank(0, 0));
        twins.refusedBad("a member alone: sell", memberAlone, x -> x.sell(0, 1, 0));
    }

    /** "NO: one may not": it does not lie; no covers are left; it is further; it is heavier. */
    private static void noToFrank() {
        twins.refusedNo("frank: it is franked", Houses::busy, x -> x.frank(0, 0));
        twins.refusedNo("frank: it was paid for", Houses::busy, x -> x.frank(2, 0));
        twins.refusedNo("frank: too heavy", Houses::busy, x -> x.frank(1, 0));
        Twins.Made far = () -> Houses.of(new int[][] {{0, 40}}, new int[][] {{61, 0, 1}, {60, 0, 1}, {20, 0, 1}, {19, 0, 1}});
        twins.refusedNo("frank: 21 miles up", far, x -> x.frank(0, 0));
        twins.taken("frank: 20 miles up", far, x -> x.frank(1, 0), 5);
        twins.taken("frank: 20 miles down", far, x -> x.frank(2, 0), 2);
        twins.refusedNo("frank: 21 miles down", far, x -> x.frank(3, 0));
        Twins.Made tired = () -> sickWithSigned(5);
        twins.refusedNo("frank: the 6th cover of a sick one", tired, x -> x.frank(5, 0));
        twins.taken("frank: the 5th cover of a sick one", () -> sickWithSigned(4), x -> x.frank(5, 0), 1);
    }

    private static SignedOutside sickWithSigned(int n) {
        SignedOutside x = Houses.of(new int[][] {{2, 0}},
            new int[][] {{0, 0, 1}, {0, 0, 1}, {0, 0, 1}, {0, 0, 1}, {0, 0, 1}, {0, 0, 1}});
        for (int l = 0; l < n; l++) {
            x.frank(l, 0);
        }
        return x;
    }

    private static void noToPay() {
        twins.refusedNo("pay: it is franked", Houses::busy, x -> x.pay(0));
        twins.refusedNo("pay: it was paid for", Houses::busy, x -> x.pay(2));
        twins.taken("pay: it lies", Houses::busy, x -> x.pay(1), 20);
    }

    private static void noToUndo() {
        twins.refusedNo("undo: a new object", SignedOutside::new, x -> x.undo());
        twins.refusedNo("undo: behind house()", made(x -> x.house()), x -> x.undo());
        twins.refusedNo("undo: behind a house that was read", made(x -> x.read()), x -> x.undo());
        twins.refusedNo("undo: behind a member", made(x -> x.member(0, 0)), x -> x.undo());
        twins.refusedNo("undo: behind a letter", made(x -> x.letter(0, 0, 1)), x -> x.undo());
        twins.refusedNo("undo: all is undone", made(x -> undo(x, x.count(6))), x -> x.undo());
        twins.taken("undo: one is left", made(x -> undo(x, x.count(6) - 1)), x -> x.undo(), 0);
        twins.refusedNo("undo: an image without any", made(x -> {
            x.house();
            x.image(1);
            x.day();
            return x.from(1);
        }), x -> x.undo());
    }

    private static long undo(SignedOutside x, int n) {
        for (int i = 0; i < n; i++) {
            x.undo();
        }
        return n;
    }

    /** A busy house behind one call more. */
    private static Twins.Made made(Twins.Call call) {
        return () -> {
            SignedOutside x = Houses.busy();
            call.on(x);
            return x;
        };
    }

    private static void noToSell() {
        twins.refusedNo("sell: it is franked", Houses::busy, x -> x.sell(0, 1, 0));
        twins.refusedNo("sell: it was paid for", Houses::busy, x -> x.sell(1, 0, 2));
        twins.taken("sell: it lies", Houses::busy, x -> x.sell(0, 1, 1));
    }

    private static void noToGoOnFromAnImage() {
        twins.refusedNo("from(0): a new object", SignedOutside::new, x -> x.from(0));
        twins.refusedNo("from(1): a new object", SignedOutside::new, x -> x.from(1));
        twins.refusedNo("from(1): 0 alone was kept", Houses::busy, x -> x.from(1));
        twins.taken("from(0): 0 alone was kept", Houses::busy, x -> x.from(0), 1);
        Twins.Made second = () -> {
            SignedOutside x = Houses.told("house;member 0 0;");
            x.image(1);
            return x;
        };
        twins.refusedNo("from(0): 1 alone was kept", second, x -> x.from(0));
        twins.taken("from(1): 1 alone was kept", second, x -> x.from(1), 1);
        twins.refusedNo("from(1): none was kept, house() or not", made(x -> x.house()), x -> x.from(1));
    }

    private static SignedOutside withMembers(int n) {
        SignedOutside x = new SignedOutside();
        for (int m = 0; m < n; m++) {
            x.member(m, 10 * m);
        }
        x.letter(0, 99, 1);
        x.frank(0, 0);
        return x;
    }

    private static void fullOfMembers() {
        twins.taken("a 4th member", () -> withMembers(3), x -> x.member(5, 99), 3);
        twins.taken("a 5th member", () -> withMembers(4), x -> x.member(5, 99), 4);
        twins.refusedFull("a 6th member", () -> withMembers(5), x -> x.member(5, 99));
        twins.refusedFull("a 6th member, crowded", Houses::crowded, x -> x.member(0, 0));
    }

    private static SignedOutside withLetters(int n) {
        SignedOutside x = new SignedOutside();
        for (int l = 0; l < n; l++) {
            x.letter(l, 10 * l, 1 + l);
        }
        x.pay(0);
        return x;
    }

    private static void fullOfLetters() {
        twins.taken("a 5th letter", () -> withLetters(4), x -> x.letter(99, 0, 9), 4);
        twins.taken("a 6th letter", () -> withLetters(5), x -> x.letter(99, 0, 9), 5);
        twins.refusedFull("a 7th letter", () -> withLetters(6), x -> x.letter(99, 0, 9));
        twins.refusedFull("a 7th letter, crowded", Houses::crowded, x -> x.letter(0, 0, 1));
    }

    private static SignedOutside withText(int n) {
        SignedOutside x = Houses.told("house;member 4 7;");
        x.day();
        x.clear();
        Houses.type(x, "house;letter 1 2 3;" + " ".repeat(n - 19));
        return x;
    }

    private static void fullOfBytes() {
        twins.taken("a 149th byte", () -> withText(148), x -> x.type(' '), 149);
        twins.taken("a 150th byte", () -> withText(149), x -> x.type('x'), 150);
        twins.refusedFull("a 151st byte", () -> withText(150), x -> x.type('x'));
        twins.refusedFull("a 151st byte, crowded", Houses::crowded, x -> x.type(0));
    }

    private static SignedOutside withCovers(int n) {
        SignedOutside x = Houses.busy();
        x.forget(0);
        for (int i = 0; i < n; i++) {
            x.cover(i % 2, i, 10 * i);
        }
        return x;
    }

    private static void fullOfCovers() {
        twins.taken("a 5th cover", () -> withCovers(4), x -> x.cover(1, 99, 99), 5);
        twins.taken("a 6th cover", () -> withCovers(5), x -> x.cover(1, 99, 99), 6);
        twins.refusedFull("a 7th cover", () -> withCovers(6), x -> x.cover(1, 99, 99));
        twins.refusedFull("a 7th cover, crowded", Houses::crowded, x -> x.cover(0, 0, 0));
    }

    private static SignedOutside withNotes(int n) {
        SignedOutside x = Houses.busy();
        x.forget(1);
        for (int i = 0; i < n; i++) {
            x.note(i % 2, i, i);
        }
        return x;
    }

    private static void fullOfNotes() {
        twins.taken("a 5th note", () -> withNotes(4), x -> x.note(1, 99, 20), 5);
        twins.taken("a 6th note", () -> withNotes(5), x -> x.note(1, 99, 20), 6);
        twins.refusedFull("a 7th note", () -> withNotes(6), x -> x.note(1, 99, 20));
        twins.refusedFull("a 7th note, crowded", Houses::crowded, x -> x.note(0, 0, 0));
    }

    private static void badAheadOfNo() {
        twins.refusedBad("frank: franked, by one who is not there", Houses::busy, x -> x.frank(0, 2));
        twins.refusedBad("frank: paid for, by one who is not there", Houses::busy, x -> x.frank(2, -1));
        twins.refusedBad("sell: alike, and it does not lie", Houses::busy, x -> x.sell(1, 1, 0));
        twins.refusedBad("sell: a is not there, and it does not lie", Houses::busy, x -> x.sell(2, 1, 0));
        twins.refusedBad("sell: b is not there, and it does not lie", Houses::busy, x -> x.sell(1, 2, 0));
        twins.refusedBad("from: no such image, and none was kept", SignedOutside::new, x -> x.from(2));
    }

    private static void badAheadOfFull() {
        twins.refusedBad("member: full, no such KIND", Houses::crowded, x -> x.member(6, 0));
        twins.refusedBad("member: full, no such PLACE", Houses::crowded, x -> x.member(0, 100));
        twins.refusedBad("letter: full, no such FROM", Houses::crowded, x -> x.letter(-1, 0, 1));
        twins.refusedBad("letter: full, no such TO", Houses::crowded, x -> x.letter(0, 100, 1));
        twins.refusedBad("letter: full, no such WEIGHT", Houses::crowded, x -> x.letter(0, 0, 10));
        twins.refusedBad("type: full, no such byte", Houses::crowded, x -> x.type(128));
        twins.refusedBad("cover: full, no such MEMBER", Houses::crowded, x -> x.cover(5, 0, 0));
        twins.refusedBad("cover: full, no such DAY", Houses::crowded, x -> x.cover(0, 100, 0));
        twins.refusedBad("cover: full, no such PLACE", Houses::crowded, x -> x.cover(0, 0, 100));
        twins.refusedBad("note: full, no such MEMBER", Houses::crowded, x -> x.note(-1, 0, 0));
        twins.refusedBad("note: full, no such DAY", Houses::crowded, x -> x.note(0, -1, 0));
        twins.refusedBad("note: full, no such n", Houses::crowded, x -> x.note(0, 0, 21));
    }
}
