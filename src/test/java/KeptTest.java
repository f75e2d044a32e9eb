import java.math.BigInteger;
import java.util.ArrayList;
import java.util.List;

/** What is kept, undone, counted and told as a number: UNDO, IMAGES, STATUS, THE FRACTION, count, digest. */
public final class KeptTest {
    private static final int NONE = SignedOutside.NONE, NO = SignedOutside.NO;
    private static final Check check = new Check();
    private static final Twins twins = new Twins(check);

    private KeptTest() { }

    public static void main(String[] args) {
        aNewObject();
        houseAnew();
        forgetting();
        undoEightAtMost();
        undoBringsBack();
        undoLeavesTheRest();
        undoNotBehindWhoComes();
        whatCountsAsAStep();
        undoTellsTheDay();
        imagesKeepAll();
        imagesLeaveTheRest();
        imagesKeepWhatMayBeUndone();
        imagesAreApart();
        imagesKeptAnew();
        theFraction();
        statusByReason();
        othersCountAsThese();
        notRefused();
        counts();
        parts();
        digestOfAll();
        digestWrapsAround();
        fiveHundredAndTwelveCalls();
        check.end("KeptTest");
    }

    private static void due(String call, long got, long want) {
        check.due(call, got, want);
    }

    private static void statusIs(String when, SignedOutside x, int bad, int no, int full) {
        due(when + ": status(0)", x.status(0), bad);
        due(when + ": status(1)", x.status(1), no);
        due(when + ": status(2)", x.status(2), full);
    }

    /** "As told; no MEMBERS, LETTERS." */
    private static void aNewObject() {
        SignedOutside x = new SignedOutside();
        statusIs("new", x, 0, 0, 0);
        for (int what = 0; what < 8; what++) {
            due("new: count(" + what + ")", x.count(what), 0);
        }
        for (int what = 0; what < 3; what++) {
            due("new: now(" + what + ")", x.now(what), 0);
        }
        due("new: above", x.part(0), 0);
        due("new: below", x.part(1), 1);
        due("new: clear()", x.clear(), 0);
        due("new: house()", x.house(), 0);
        due("new: digest()", x.digest(), digest(x));
        due("new: the first member", x.member(0, 0), 0);
        due("new: the first letter", x.letter(0, 0, 1), 0);
        due("new: the first cover", x.cover(0, 0, 0), 1);
        due("new: the first note", x.note(0, 0, 0), 1);
        due("new: the first byte", x.type(0), 1);
        due("new: the first day", x.day(), 1);
        SignedOutside other = new SignedOutside();
        due("another is apart", other.count(0), 0);
    }

    /** "All as at first (but for IMAGES, THE TEXT, THE FRACTION, STATUS): how many MEMBERS there were." */
    private static void houseAnew() {
        for (int members = 0; members <= 5; members++) {
            SignedOutside x = new SignedOutside();
            for (int m = 0; m < members; m++) {
                x.member(m, m);
            }
            due("members there were", x.house(), members);
            due("members there are", x.count(0), 0);
            due("none there were", x.house(), 0);
        }
        SignedOutside x = Houses.crowded();
        SignedOutside twin = Houses.crowded();
        x.member(0, 0);
        x.member(-1, 0);
        x.frank(0, 0);
        due("five there were", x.house(), 5);
        for (int what = 0; what < 7; what++) {
            due("behind house(): count(" + what + ")", x.count(what), 0);
        }
        due("behind house(): saved", x.now(0), 0);
        due("behind house(): spent", x.now(1), 0);
        due("behind house(): undo()", x.undo(), NO);
        due("THE TEXT stays", x.count(7), 150);
        due("THE FRACTION stays, above", x.part(0), twin.part(0));
        due("THE FRACTION stays, below", x.part(1), twin.part(1));
        statusIs("STATUS stays", x, 1, 2, 1);
        due("THE TEXT is as it was", x.read(), twin.read());
        for (int i = 0; i < 2; i++) {
            due("IMAGE " + i + " stays", x.from(i), twin.from(i));
            due("IMAGE " + i + " is as it was", x.digest(), twin.digest());
        }
    }

    /** "No COVERS (0), NOTES (1): how many there were." */
    private static void forgetting() {
        for (int n = 0; n <= 6; n++) {
            SignedOutside x = Houses.of(new int[][] {{0, 0}}, new int[][] {});
            for (int i = 0; i < n; i++) {
                x.cover(0, i, i);
            }
            for (int i = 0; i < 6 - n; i++) {
                x.note(0, i, i);
            }
            x.day();
            due("covers there were", x.forget(0), n);
            due("covers there are", x.count(4), 0);
            due("notes there are", x.count(5), 6 - n);
            due("notes there were", x.forget(1), 6 - n);
            due("notes there are", x.count(5), 0);
            due("none there were", x.forget(0) + x.forget(1), 0);
            due("what may be undone stays", x.count(6), 1);
            due("the first anew", x.cover(0, 9, 9), 1);
            due("the first anew", x.note(0, 9, 9), 1);
        }
        SignedOutside x = Houses.crowded();
        x.forget(0);
        x.image(0);
        due("an image of a house without covers", x.count(4), 0);
    }

    /** "(8 at most ...": seven, eight, nine and many steps. */
    private static void undoEightAtMost() {
        for (int steps : new int[] {0, 1, 6, 7, 8, 9, 10, 15, 16, 17, 24, 100}) {
            SignedOutside x = Houses.told("house;member 0 50;");
            for (int i = 1; i <= steps; i++) {
                due("moves", x.moves(0, i % 100), i == 1 ? 50 : (i - 1) % 100);
                due("that may be undone", x.count(6), Math.min(i, 8));
            }
            int may = Math.min(steps, 8);
            for (int i = 0; i < may; i++) {
                due(steps + " steps, undone " + i, x.undo(), 0);
                int left = steps - i - 1;
                due(steps + " steps, place", x.of(0, 1), left == 0 ? 50 : left % 100);
                due(steps + " steps, left", x.count(6), may - i - 1);
            }
            due(steps + " steps, none may be", x.undo(), NO);
            due("place stays", x.of(0, 1), steps <= 8 ? 50 : (steps - 8) % 100);
            x.moves(0, 77);
            due("one anew", x.count(6), 1);
            x.undo();
            due("undone", x.of(0, 1), steps <= 8 ? 50 : (steps - 8) % 100);
        }
    }

    /** "LETTERS, SIGNED, PLACES of MEMBERS, SAVED, SPENT, the DAY as ahead of the last one". */
    private static void undoBringsBack() {
        Twins.Call[] steps = {x -> x.frank(4, 4), x -> x.pay(5), x -> x.day(), x -> x.moves(2, 0), x -> x.frank(4, 1), x -> x.pay(4), x -> x.moves(4, 60)};
        for (int i = 0; i < steps.length; i++) {
            SignedOutside x = Houses.crowded();
            Houses.days(x, 8);
            List<String> ahead = state(x);
            steps[i].on(x);
            check.holds("step " + i + " changes something, or a place to itself", i == 6 || !state(x).equals(ahead));
            due("step " + i + " may be undone", x.count(6), 8);
            due("undo of step " + i, x.undo(), 10);
            check.holds("step " + i + ": as ahead of it " + ahead + state(x), state(x).equals(ahead));
            due("seven are left", x.count(6), 7);
        }
        SignedOutside x = Houses.of(new int[][] {{1, 50}, {1, 50}}, new int[][] {{50, 99, 5}, {50, 0, 1}});
        List<List<String>> ahead = new ArrayList<>();
        Twins.Call[] chain = {y -> y.frank(0, 0), y -> y.moves(1, 60), y -> y.day(), y -> y.frank(1, 1), y -> y.day(),
            y -> y.moves(0, 0), y -> y.moves(0, 99), y -> y.day()};
        for (Twins.Call step : chain) {
            ahead.add(state(x));
            step.on(x);
        }
        for (int i = chain.length - 1; i >= 0; i--) {
            x.undo();
            check.holds("chain, ahead of step " + i, state(x).equals(ahead.get(i)));
        }
        due("none is left", x.undo(), NO);
    }

    private static List<String> state(SignedOutside x) {
        List<String> seen = new ArrayList<>();
        seen.add("day " + x.count(2) + " saved " + x.now(0) + " spent " + x.now(1));
        for (int m = 0; m < x.count(0); m++) {
            seen.add("member " + x.of(m, 0) + " " + x.of(m, 1) + " " + x.of(m, 2));
        }
        for (int l = 0; l < x.count(1); l++) {
            seen.add("letter " + x.about(l, 0) + " " + x.about(l, 1) + " " + x.about(l, 2) + " " + x.about(l, 4));
        }
        return seen;
    }

    /** UNDO touches nothing that it does not name: COVERS, NOTES, IMAGES, THE TEXT, THE FRACTION, STATUS. */
    private static void undoLeavesTheRest() {
        SignedOutside x = Houses.busy();
        x.day();
        x.cover(1, 1, 1);
        x.note(0, 1, 1);
        x.image(1);
        x.type('x');
        x.found(7);
        x.member(-1, 0);
        long image = x.digest();
        due("undo()", x.undo(), 1);
        due("covers", x.count(4), 3);
        due("notes", x.count(5), 2);
        due("the text", x.count(7), Houses.OTHER.length() + 1);
        due("above", x.part(0), 21);
        due("below", x.part(1), 5);
        statusIs("undo", x, 1, 0, 0);
        x.from(1);
        due("the image", x.digest(), image);
        x.forget(0);
        x.forget(1);
        x.undo();
        due("covers that were forgotten stay so", x.count(4), 0);
        due("notes that were forgotten stay so", x.count(5), 0);
    }

    /** "behind a MEMBER, a LETTER that comes none may be": not behind one that is refused. */
    private static void undoNotBehindWhoComes() {
        Twins.Call[] comes = {x -> x.member(0, 0), x -> x.letter(0, 0, 1)};
        Twins.Call[] refused = {x -> x.member(6, 0), x -> x.letter(0, 0, 0)};
        for (int i = 0; i < 2; i++) {
            SignedOutside x = Houses.busy();
            due("ahead of it", x.count(6), 4);
            refused[i].on(x);
            due("refused", x.count(6), 4);
            comes[i].on(x);
            due("behind it", x.count(6), 0);
            due("behind it", x.undo(), NO);
            x.day();
            due("one step", x.count(6), 1);
            due("one step undone", x.undo(), 1);
            due("but not two", x.undo(), NO);
        }
        SignedOutside full = Houses.crowded();
        full.member(0, 0);
        full.letter(0, 0, 1);
        due("full ones", full.count(6), 8);
    }

    /** "the last one franked, paid, DAY gone by, MEMBER who moved": these and no others, and none refused. */
    private static void whatCountsAsAStep() {
        Twins.Call[] none = {x -> x.type('x'), x -> x.clear(), x -> x.of(0, 0), x -> x.all(NONE), x -> x.penny(), x -> x.found(3),
            x -> x.cover(0, 0, 0), x -> x.note(0, 0, 0), x -> x.forget(0), x -> x.forget(1), x -> x.sessions(5, 60), x -> x.image(1),
            x -> x.status(0), x -> x.digest(), x -> x.frank(0, 0), x -> x.frank(9, 0), x -> x.pay(0), x -> x.pay(9),
            x -> x.moves(2, 0), x -> x.moves(0, 100), x -> x.from(1), x -> x.from(2)};
        for (int i = 0; i < none.length; i++) {
            SignedOutside x = Houses.busy();
            none[i].on(x);
            due("no step, " + i, x.count(6), 4);
            due("the last one is the last still, " + i, x.undo() + 100 * x.of(1, 1), 1 + 5500);
        }
        Twins.Call[] steps = {x -> x.frank(1, 1), x -> x.pay(1), x -> x.day(), x -> x.moves(0, 1), x -> x.moves(0, 40)};
        for (int i = 0; i < steps.length; i++) {
            SignedOutside x = Houses.busy();
            steps[i].on(x);
            due("a step, " + i, x.count(6), 5);
        }
        SignedOutside x = Houses.busy();
        x.undo();
        due("undone ones are no step", x.count(6), 3);
    }

    /** "UNDO: the DAY then." */
    private static void undoTellsTheDay() {
        SignedOutside x = Houses.told("house;member 0 0;letter 0 0 1;");
        Houses.days(x, 3);
        x.frank(0, 0);
        due("the frank", x.undo(), 3);
        due("day 3", x.undo(), 2);
        due("day 2", x.undo(), 1);
        due("day 1", x.undo(), 0);
        due("none", x.undo(), NO);
        due("the day", x.count(2), 0);
    }

    private static final List<Twins.Made> HOUSES = List.of(Houses::busy, Houses::crowded, SignedOutside::new);

    /** Other members, letters, covers, notes, another day, other steps. */
    private static void changeAll(SignedOutside x) {
        x.moves(0, 99);
        x.pay(1);
        x.forget(0);
        x.forget(1);
        x.house();
        x.member(3, 33);
        x.letter(33, 2, 1);
        x.cover(0, 1, 2);
        x.note(0, 1, 2);
        x.frank(0, 0);
        x.day();
    }

    /** "IMAGES 0, 1 keep all ...; it goes on from one": in each state, by each of the two. */
    private static void imagesKeepAll() {
        for (int i = 0; i < 2; i++) {
            for (Twins.Made made : HOUSES) {
                SignedOutside x = made.make();
                SignedOutside twin = made.make();
                due("image(" + i + ")", x.image(i), 1);
                due("image(" + i + ")", twin.image(i), 1);
                changeAll(x);
                due("from(" + i + ")", x.from(i), 1);
                due("digest", x.digest(), twin.digest());
                changeAll(x);
                due("from(" + i + ") again", x.from(i), 1);
                twins.alike("gone on from image " + i, x, twin);
            }
        }
    }

    /** "all but them, THE TEXT, THE FRACTION and STATUS". */
    private static void imagesLeaveTheRest() {
        SignedOutside x = Houses.busy();
        x.image(1);
        x.clear();
        Houses.type(x, "house;member 5 5;");
        x.found(7);
        x.undo();
        x.member(-1, 0);
        x.frank(0, 0);
        due("from(1)", x.from(1), 1);
        due("THE TEXT's length", x.count(7), 17);
        due("THE FRACTION, above", x.part(0), 21);
        due("THE FRACTION, below", x.part(1), 5);
        statusIs("STATUS", x, 1, 1, 0);
        due("THE TEXT", x.read(), 2);
        due("from(0): the other image", x.from(0), 1);
        due("its letters", x.count(3), 2);
        due("from(1): kept on", x.from(1), 1);
        due("its letters", x.count(3), 1);
        SignedOutside fresh = new SignedOutside();
        fresh.image(0);
        fresh.image(1);
        due("them: 0 is not kept in 1", fresh.member(0, 0), 0);
        fresh.image(0);
        fresh.from(1);
        due("an empty house", fresh.count(0), 0);
        fresh.from(0);
        due("a house with a member", fresh.count(0), 1);
    }

    /** "what may be undone they keep". */
    private static void imagesKeepWhatMayBeUndone() {
        for (int steps : new int[] {0, 1, 7, 8, 9, 12}) {
            SignedOutside x = Houses.told("house;member 0 50;");
            for (int i = 1; i <= steps; i++) {
                x.moves(0, i);
            }
            x.image(0);
            for (int i = 0; i < 5; i++) {
                x.undo();
            }
            Houses.days(x, 9);
            x.from(0);
            int may = Math.min(steps, 8);
            due(steps + " steps: that may be undone", x.count(6), may);
            for (int i = 0; i < may; i++) {
                x.undo();
                due(steps + " steps: place", x.of(0, 1), steps - i == 1 ? 50 : steps - i - 1);
            }
            due(steps + " steps: none may be", x.undo(), NO);
            x.from(0);
            due(steps + " steps: kept on", x.count(6), may);
        }
    }

    /** What is done behind an image, or behind going on from one, does not touch it. */
    private static void imagesAreApart() {
        for (Twins.Made made : HOUSES) {
            SignedOutside x = made.make();
            x.image(0);
            changeAll(x);
            x.image(1);
            SignedOutside twin = made.make();
            twin.image(0);
            changeAll(twin);
            twin.image(1);
            x.from(0);
            x.moves(0, 1);
            x.undo();
            x.undo();
            x.cover(0, 5, 5);
            x.house();
            x.from(1);
            x.forget(0);
            x.forget(1);
            x.day();
            x.letter(9, 9, 9);
            x.from(1);
            twins.alike("both images are as kept", x, twin);
        }
    }

    /** An image that is kept again is what was kept last. */
    private static void imagesKeptAnew() {
        SignedOutside x = Houses.busy();
        x.house();
        x.image(0);
        x.member(1, 1);
        x.from(0);
        due("kept anew", x.count(0), 0);
        due("with nothing to undo", x.count(6), 0);
        x.member(2, 2);
        x.image(0);
        x.house();
        x.from(0);
        due("kept anew", x.count(0), 1);
        due("its kind", x.of(0, 0), 2);
    }

    private static void fractionIs(String when, SignedOutside x, long above, long below) {
        due(when + ": above", x.part(0), above);
        due(when + ": below", x.part(1), below);
    }

    /** "THE FRACTION is 0 by 1 at first; lowest terms, below above 0." */
    private static void theFraction() {
        SignedOutside x = new SignedOutside();
        fractionIs("at first", x, 0, 1);
        x.found(10);
        fractionIs("nothing is found", x, 0, 1);
        x.member(0, 0);
        x.letter(0, 15, 1);
        x.letter(0, 0, 1);
        fractionIs("nothing asked for it", x, 0, 1);
        x.penny();
        fractionIs("3 by 2", x, 3, 2);
        x.found(11);
        x.found(-1);
        fractionIs("refused", x, 3, 2);
        x.letter(0, 15, 2);
        x.penny();
        fractionIs("7 by 4", x, 7, 4);
        x.letter(0, 0, 1);
        x.letter(0, 0, 1);
        x.letter(0, 60, 1);
        x.penny();
        fractionIs("14 by 7", x, 2, 1);
        x.frank(0, 0);
        x.found(5);
        fractionIs("10 by 10", x, 1, 1);
        x.found(0);
        fractionIs("0 by 10", x, 0, 1);
        x.found(4);
        fractionIs("8 by 10", x, 4, 5);
        x.day();
        x.undo();
        x.image(0);
        x.from(0);
        x.house();
        fractionIs("it stays", x, 4, 5);
    }

    /** "STATUS: BAD (0), NO (1), FULL (2)": each refused call is one more of its reason, and of no other. */
    private static void statusByReason() {
        SignedOutside x = new SignedOutside();
        for (int i = 1; i <= 40; i++) {
            x.member(6, 0);
            statusIs("BAD " + i, x, i, 0, 0);
        }
        for (int i = 1; i <= 40; i++) {
            x.undo();
            statusIs("NO " + i, x, 40, i, 0);
        }
        for (int i = 0; i < 6; i++) {
            x.letter(0, 0, 1);
        }
        for (int i = 1; i <= 20; i++) {
            x.letter(0, 0, 1);
            statusIs("FULL " + i, x, 40, 40, i);
        }
    }

    /** "(where others are told they count as these)", "-1: another what (counts as BAD)". */
    private static void othersCountAsThese() {
        SignedOutside x = new SignedOutside();
        due("about", x.about(0, 0), -10);
        statusIs("about", x, 1, 0, 0);
        due("all", x.all(0), -10);
        statusIs("all", x, 2, 0, 0);
        due("all", x.all(-2), -10);
        statusIs("all", x, 3, 0, 0);
        due("status(-1)", x.status(-1), -1);
        statusIs("status(-1)", x, 4, 0, 0);
        due("status(3)", x.status(3), -1);
        statusIs("status(3)", x, 5, 0, 0);
        due("part", x.part(2), -2);
        statusIs("part", x, 6, 0, 0);
    }

    /** Answers below 0 that are not told as BAD, NO, FULL: NONE, a FAULT, what sells for less than nothing. */
    private static void notRefused() {
        SignedOutside x = Houses.of(new int[][] {{0, 0}}, new int[][] {{99, 99, 9}});
        x.cover(0, 1, 0);
        x.cover(0, 1, 99);
        due("fewest", x.fewest(), NONE);
        due("about", x.about(0, 4), NONE);
        due("where", x.where(0, 1, 1), NONE);
        due("look", x.look(0, 1), NONE);
        due("read of nothing", x.read(), -10);
        x.type('x');
        due("read", x.read(), -10);
        due("all(NONE)", x.all(NONE), 0);
        statusIs("none of them is refused", x, 0, 0, 0);
    }

    /** "0 MEMBERS, 1 LETTERS, 2 the DAY, 3 that lie, 4 COVERS, 5 NOTES, 6 that may be undone, 7 bytes of THE TEXT". */
    private static void counts() {
        int[][] want = {{2, 3, 1, 1, 2, 1, 4, Houses.OTHER.length()}, {5, 6, 2, 2, 6, 6, 8, 150}, {0, 0, 0, 0, 0, 0, 0, 0}};
        for (int i = 0; i < HOUSES.size(); i++) {
            SignedOutside x = HOUSES.get(i).make();
            for (int what = 0; what < 8; what++) {
                due("house " + i + ": count(" + what + ")", x.count(what), want[i][what]);
            }
            due("count(-1)", x.count(-1), SignedOutside.BAD);
            due("count(8)", x.count(8), SignedOutside.BAD);
        }
        SignedOutside x = Houses.of(new int[][] {{0, 0}}, new int[][] {{0, 0, 1}, {0, 0, 1}, {0, 0, 1}});
        due("three lie", x.count(3), 3);
        x.frank(1, 0);
        due("two lie", x.count(3), 2);
        x.pay(2);
        due("one lies", x.count(3), 1);
        x.pay(0);
        due("none lies", x.count(3), 0);
        x.undo();
        due("one lies again", x.count(3), 1);
    }

    private static void parts() {
        SignedOutside x = Houses.busy();
        due("above", x.part(0), 7);
        due("below", x.part(1), 2);
        due("part(-1)", x.part(-1), SignedOutside.BAD);
        due("part(2)", x.part(2), SignedOutside.BAD);
        statusIs("part", x, 2, 0, 0);
    }

    /** The numbers of the digest, by what the other calls answer; covers and notes as the caller knows them. */
    private static long digest(SignedOutside x, int... coversAndNotes) {
        List<Long> values = new ArrayList<>();
        for (int what = 0; what < 8; what++) {
            values.add((long) x.count(what));
        }
        values.add((long) x.now(0));
        values.add((long) x.now(1));
        for (int m = 0; m < x.count(0); m++) {
            for (int what = 0; what < 3; what++) {
                values.add((long) x.of(m, what));
            }
        }
        for (int l = 0; l < x.count(1); l++) {
            for (int what : new int[] {0, 1, 2, 4}) {
                values.add((long) x.about(l, what));
            }
        }
        for (int v : coversAndNotes) {
            values.add((long) v);
        }
        values.add(x.part(0));
        values.add(x.part(1));
        BigInteger h = BigInteger.valueOf(1289);
        for (long v : values) {
            h = h.multiply(BigInteger.valueOf(31)).add(BigInteger.valueOf(v));
        }
        return h.longValue();
    }

    /** "h = 1289; then h = 31 h + v for each v", from the emptiest house to the fullest. */
    private static void digestOfAll() {
        SignedOutside x = new SignedOutside();
        due("the emptiest", x.digest(), digest(x));
        x.type('h');
        due("a byte", x.digest(), digest(x));
        x.member(5, 99);
        due("a member", x.digest(), digest(x));
        x.letter(99, 0, 5);
        due("a letter", x.digest(), digest(x));
        x.cover(0, 99, 98);
        due("a cover", x.digest(), digest(x, 0, 99, 98));
        x.note(0, 97, 20);
        due("a note", x.digest(), digest(x, 0, 99, 98, 0, 97, 20));
        x.frank(0, 0);
        due("a frank", x.digest(), digest(x, 0, 99, 98, 0, 97, 20));
        x.found(3);
        due("a fraction", x.digest(), digest(x, 0, 99, 98, 0, 97, 20));
        x.letter(0, 0, 1);
        x.pay(1);
        due("a letter paid for", x.digest(), digest(x, 0, 99, 98, 0, 97, 20));
        x.day();
        due("a day", x.digest(), digest(x, 0, 99, 98, 0, 97, 20));
        x.status(9);
        x.undo();
        due("undone, STATUS aside", x.digest(), digest(x, 0, 99, 98, 0, 97, 20));
        due("busy", Houses.busy().digest(), digest(Houses.busy(), 0, 3, 20, 0, 3, 58, 1, 4, 10));
        due("crowded", Houses.crowded().digest(), digest(Houses.crowded(),
            0, 0, 0, 1, 1, 15, 2, 0, 30, 3, 1, 45, 4, 0, 60, 0, 1, 75,
            0, 0, 5, 1, 1, 10, 2, 0, 5, 0, 1, 10, 1, 0, 5, 2, 1, 10));
        x.forget(0);
        due("covers forgotten", x.digest(), digest(x, 0, 97, 20));
        x.forget(1);
        due("notes forgotten", x.digest(), digest(x));
    }

    /** The number runs over a long's end: even the emptiest house's twelve numbers do so. */
    private static void digestWrapsAround() {
        BigInteger h = BigInteger.valueOf(1289).multiply(BigInteger.valueOf(31).pow(12)).add(BigInteger.ONE);
        check.holds("it runs over", h.bitLength() > 63);
        due("the emptiest", new SignedOutside().digest(), h.longValue());
        SignedOutside x = new SignedOutside();
        boolean below = false;
        boolean above = false;
        for (int i = 0; i < 11; i++) {
            due("a member or a letter more", i < 5 ? x.member(i, i) : x.letter(i, i, i - 4), i < 5 ? i : i - 5);
            due("digest", x.digest(), digest(x));
            below |= x.digest() < 0;
            above |= x.digest() > 0;
        }
        check.holds("both signs are seen", below && above);
    }

    /** "An object is used for at most 512 calls": the last of them answers as the first would. */
    private static void fiveHundredAndTwelveCalls() {
        SignedOutside x = new SignedOutside();
        for (int d = 1; d <= 505; d++) {
            due("day()", x.day(), d);
        }
        due("call 506", x.member(2, 50), 0);
        due("call 507", x.of(0, 3), 10);
        due("call 508", x.day(), 506);
        due("call 509", x.of(0, 3), 5);
        due("call 510", x.letter(50, 50, 1), 0);
        due("call 511", x.frank(0, 0), 1);
        due("call 512", x.digest(), digestOfLast());
    }

    private static long digestOfLast() {
        long h = 1289;
        for (long v : new long[] {1, 1, 506, 0, 0, 0, 1, 0, 1, 0, 2, 50, 1, 50, 50, 1, 0, 0, 1}) {
            h = 31 * h + v;
        }
        return h;
    }
}
