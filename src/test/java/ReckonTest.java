/** Part 2 of the document, sentence by sentence: what is reckoned, at its bounds and just beside them. */
public final class ReckonTest {
    private static final int NONE = SignedOutside.NONE;
    private static final int PAID = 5, NOT_LYING = 6;
    private static final Check check = new Check();
    private static final Twins twins = new Twins(check);

    private ReckonTest() { }

    public static void main(String[] args) {
        nothingIsChanged();
        may();
        allOfNone();
        allByCoversLeft();
        allInTheFirstWay();
        allPaidAndNotLying();
        fewestOfNone();
        fewestOfLikeOnes();
        fewestByCovers();
        standAtTheRoadsEnds();
        standOfLikeOnes();
        standByCoversLeft();
        standByWeight();
        due();
        pennyNoLess();
        pennyOfNone();
        pennyOfAllLetters();
        whereNoCovers();
        whereWithinReach();
        whereAtTheRoadsEnds();
        whereOfDayAndMember();
        lookHalves();
        lookNone();
        forgedByPlace();
        forgedByNumber();
        forgedFewestThenLeast();
        isByNotes();
        sell();
        sellWhoMayNot();
        found();
        sessionsNone();
        sessionsAsByHand();
        sessionsOfWhoIsThere();
        sessionsWhenADayGoesBy();
        check.end("ReckonTest");
    }

    private static void due(String call, long got, long want) {
        check.due(call, got, want);
    }

    private static int[][] letters(int n, int from, int to, int weight) {
        int[][] rows = new int[n][];
        for (int l = 0; l < n; l++) {
            rows[l] = new int[] {from, to, weight};
        }
        return rows;
    }

    /** "(Nothing is changed by these.)" */
    private static void nothingIsChanged() {
        Twins.Call[] calls = {x -> x.may(1), x -> x.all(NONE), x -> x.all(1), x -> x.fewest(), x -> x.stand(1, 0), x -> x.stand(1, 1),
            x -> x.where(0, 3, 0), x -> x.where(0, 3, 1), x -> x.look(0, 3), x -> x.forged(0), x -> x.is(1), x -> x.sell(0, 1, 4),
            x -> x.sessions(7, 60), x -> x.of(0, 3), x -> x.about(0, 4), x -> x.now(2), x -> x.part(0), x -> x.status(0),
            x -> x.count(3), x -> x.digest(), x -> x.penny(), x -> x.found(7)};
        for (int i = 0; i < calls.length; i++) {
            Twins.Call call = calls[i];
            // Asked once ahead, for THE FRACTION is what these two calls leave behind.
            Twins.Made made = () -> {
                SignedOutside x = Houses.crowded();
                call.on(x);
                return x;
            };
            twins.changesNothing("call " + i + " of those that change nothing", made, call, call.on(Houses.crowded()), Twins.NO_STATUS);
        }
        SignedOutside x = Houses.crowded();
        long before = x.digest();
        for (int i = 0; i < calls.length - 2; i++) {
            calls[i].on(x);
        }
        due("digest behind all of them but penny and found", x.digest(), before);
    }

    /** "MAY: MEMBERS (bits) who MAY frank a LETTER now"; "(0: it does not lie)". */
    private static void may() {
        SignedOutside x = Houses.of(new int[][] {{0, 30}, {0, 29}, {3, 10}, {5, 60}, {4, 50}}, letters(3, 50, 0, 2));
        due("20 miles, 21, 40, 10, none", x.may(0), 1 + 4 + 8 + 16);
        x.frank(0, 0);
        due("franked", x.may(0), 0);
        due("another", x.may(1), 29);
        x.pay(1);
        due("paid for", x.may(1), 0);
        x.moves(1, 30);
        due("all five", x.may(2), 31);
        Houses.days(x, 7);
        due("on day 7", x.may(2), 15);
    }

    /** No letters lie: nothing is saved; each that is there does not lie. */
    private static void allOfNone() {
        SignedOutside x = new SignedOutside();
        due("no letters", x.all(NONE), 0);
        x.member(0, 0);
        due("no letters, a member", x.all(NONE), 0);
        x.letter(0, 0, 1);
        due("one", x.all(NONE), 1);
        due("one", x.all(0), 0);
        x.frank(0, 0);
        due("none lies", x.all(NONE), 0);
        due("none lies", x.all(0), NOT_LYING);
        SignedOutside y = Houses.of(new int[][] {}, letters(2, 0, 99, 9));
        due("no members", y.all(NONE), 0);
        due("no members", y.all(1), PAID);
    }

    /** "(by how many covers each has left)". */
    private static void allByCoversLeft() {
        int[][] six = {{50, 50, 2}, {50, 50, 1}, {50, 50, 2}, {50, 50, 2}, {50, 50, 2}, {50, 50, 2}};
        SignedOutside x = Houses.of(new int[][] {{2, 50}}, six);
        due("five covers for six", x.all(NONE), 10);
        for (int l = 0; l < 6; l++) {
            due("the cheapest is paid for, " + l, x.all(l), l == 1 ? PAID : 0);
        }
        x.frank(0, 0);
        due("four for five", x.all(NONE), 8);
        due("the cheapest is paid for", x.all(1), PAID);
        x.pay(5);
        due("four for four", x.all(NONE), 7);
        due("none is paid for", x.all(1), 0);
        x.undo();
        x.day();
        due("ten for five", x.all(NONE), 9);
        due("none is paid for", x.all(1), 0);
        SignedOutside dead = Houses.of(new int[][] {{4, 50}}, six);
        Houses.days(dead, 6);
        due("a dead one on day 6", dead.all(NONE), 10);
        dead.day();
        due("a dead one on day 7", dead.all(NONE), 0);
        due("a dead one on day 7", dead.all(0), PAID);
    }

    /** "in the first such way (LETTER by LETTER, MEMBERS rising, paid last)". */
    private static void allInTheFirstWay() {
        SignedOutside x = Houses.of(new int[][] {{2, 50}, {1, 50}}, letters(6, 50, 50, 1));
        int[] first = {0, 0, 0, 0, 0, 1};
        for (int l = 0; l < 6; l++) {
            due("the first one's while covers are left, " + l, x.all(l), first[l]);
        }
        int[][] lastIsFar = {{50, 50, 1}, {50, 50, 1}, {50, 50, 1}, {50, 50, 1}, {50, 50, 1}, {30, 30, 1}};
        SignedOutside y = Houses.of(new int[][] {{2, 50}, {0, 70}}, lastIsFar);
        int[] keepsOne = {0, 0, 0, 0, 1, 0};
        due("all six", y.all(NONE), 6);
        for (int l = 0; l < 6; l++) {
            due("a cover is kept for the last, " + l, y.all(l), keepsOne[l]);
        }
        SignedOutside z = Houses.of(new int[][] {{2, 50}}, letters(6, 50, 50, 1));
        for (int l = 0; l < 6; l++) {
            due("of like ones the last is paid for, " + l, z.all(l), l == 5 ? PAID : 0);
        }
        SignedOutside w = Houses.of(new int[][] {{0, 0}, {0, 50}, {0, 50}, {0, 50}, {0, 99}}, new int[][] {{50, 50, 1}, {99, 0, 1}});
        due("the least who may", w.all(0), 1);
        due("the last member", w.all(1), 4);
    }

    /** "(5: paid; 6: it does not lie)". */
    private static void allPaidAndNotLying() {
        SignedOutside x = Houses.of(new int[][] {{0, 50}}, new int[][] {{50, 50, 2}, {50, 50, 3}, {70, 0, 1}, {71, 0, 1}, {50, 50, 1}, {50, 50, 1}});
        x.frank(4, 0);
        x.pay(5);
        int[] who = {0, PAID, 0, PAID, NOT_LYING, NOT_LYING};
        for (int l = 0; l < 6; l++) {
            due("whose is " + l, x.all(l), who[l]);
        }
        due("how much", x.all(NONE), 2 + 5);
    }

    /** "by whom alone all LETTERS that lie can be franked today; none: not by all". */
    private static void fewestOfNone() {
        SignedOutside x = new SignedOutside();
        due("no letters", x.fewest(), 0);
        x.member(0, 0);
        due("no letters, a member", x.fewest(), 0);
        x.letter(20, 0, 2);
        due("one", x.fewest(), 1);
        x.letter(21, 0, 2);
        due("one is too far", x.fewest(), NONE);
        x.pay(1);
        due("it is paid for", x.fewest(), 1);
        x.frank(0, 0);
        due("none lies", x.fewest(), 0);
        x.letter(0, 0, 3);
        due("too heavy", x.fewest(), NONE);
        SignedOutside y = Houses.of(new int[][] {}, letters(1, 0, 0, 1));
        due("no members", y.fewest(), NONE);
    }

    /** "the fewest MEMBERS (bits; of like ones the least)". */
    private static void fewestOfLikeOnes() {
        SignedOutside x = Houses.of(new int[][] {{0, 10}, {0, 90}, {3, 50}, {3, 50}}, new int[][] {{20, 0, 1}, {80, 0, 1}});
        due("one alone, though two are the lesser bits", x.fewest(), 4);
        x.moves(2, 0);
        due("the other of like ones", x.fewest(), 8);
        x.moves(3, 0);
        due("two", x.fewest(), 3);
        SignedOutside all = Houses.of(new int[][] {{4, 0}, {4, 1}, {4, 2}, {4, 3}, {4, 4}},
            new int[][] {{0, 0, 1}, {1, 0, 1}, {2, 0, 1}, {3, 0, 1}, {4, 0, 1}});
        due("all five", all.fewest(), 31);
        all.pay(0);
        due("four of five", all.fewest(), 30);
        all.letter(5, 0, 1);
        due("one is out of reach of all", all.fewest(), NONE);
    }

    /** "today": as many covers as are left. */
    private static void fewestByCovers() {
        SignedOutside x = Houses.of(new int[][] {{2, 50}, {2, 50}}, letters(5, 50, 50, 1));
        due("five by one", x.fewest(), 1);
        x.letter(50, 50, 1);
        due("six by two", x.fewest(), 3);
        x.frank(0, 0);
        due("five, of which 0 has four left", x.fewest(), 2);
        x.frank(1, 1);
        due("four, of which each has four left", x.fewest(), 1);
        x.undo();
        x.day();
        due("on the next day", x.fewest(), 1);
        SignedOutside alone = Houses.of(new int[][] {{2, 50}}, letters(6, 50, 50, 1));
        due("six by five covers", alone.fewest(), NONE);
        alone.pay(5);
        due("five by five covers", alone.fewest(), 1);
    }

    /** "the PLACE (0 .. 99) where a MEMBER should be". */
    private static void standAtTheRoadsEnds() {
        SignedOutside x = Houses.of(new int[][] {{4, 50}, {0, 50}}, new int[][] {{99, 0, 1}});
        due("at the last place", x.stand(0, 0), 99);
        due("at the last place", x.stand(0, 1), 7);
        due("as near as need be", x.stand(1, 0), 79);
        SignedOutside y = Houses.of(new int[][] {{4, 50}, {0, 50}}, new int[][] {{0, 99, 1}});
        due("at the first place", y.stand(0, 0), 0);
        due("at the first place", y.stand(0, 1), 7);
        due("within the road", y.stand(1, 0), 0);
        SignedOutside z = Houses.of(new int[][] {{0, 50}}, new int[][] {});
        due("no letters", z.stand(0, 0), 0);
        due("no letters", z.stand(0, 1), 0);
    }

    /** "of most POSTAGE together ...; of like ones the least; how much". */
    private static void standOfLikeOnes() {
        SignedOutside x = Houses.of(new int[][] {{0, 50}}, new int[][] {{30, 30, 1}, {90, 90, 1}});
        due("like ones", x.stand(0, 0), 10);
        due("like ones", x.stand(0, 1), 1);
        x.letter(90, 90, 1);
        due("more on the far side", x.stand(0, 0), 70);
        due("more on the far side", x.stand(0, 1), 2);
        SignedOutside y = Houses.of(new int[][] {{0, 0}}, new int[][] {{30, 30, 1}, {70, 70, 1}});
        due("40 miles apart", y.stand(0, 0), 50);
        due("40 miles apart", y.stand(0, 1), 2);
        SignedOutside z = Houses.of(new int[][] {{0, 0}}, new int[][] {{30, 30, 1}, {71, 71, 1}});
        due("41 miles apart", z.stand(0, 0), 10);
        due("41 miles apart", z.stand(0, 1), 1);
        SignedOutside w = Houses.of(new int[][] {{0, 0}}, new int[][] {{30, 30, 2}, {69, 69, 2}});
        due("39 miles apart", w.stand(0, 0), 49);
        due("39 miles apart", w.stand(0, 1), 4);
        due("where one is, others or not, does not matter", w.member(0, 49), 1);
        due("nor others", w.stand(0, 0), 49);
    }

    /** "as many at most as covers are left". */
    private static void standByCoversLeft() {
        SignedOutside x = Houses.of(new int[][] {{2, 50}}, new int[][] {{50, 50, 1}, {50, 50, 2}, {50, 50, 2}, {50, 50, 2}, {50, 50, 2}, {50, 50, 2}});
        due("five for six", x.stand(0, 1), 10);
        x.frank(1, 0);
        due("four for five", x.stand(0, 1), 8);
        x.pay(2);
        due("four for four", x.stand(0, 1), 7);
        x.day();
        due("ten for four", x.stand(0, 1), 7);
        SignedOutside none = Houses.of(new int[][] {{2, 0}}, letters(6, 0, 99, 1));
        for (int l = 0; l < 4; l++) {
            none.frank(l, 0);
        }
        due("one left", none.stand(0, 1), 7);
        none.frank(4, 0);
        due("none left", none.stand(0, 1), 0);
        due("none left", none.stand(0, 0), 0);
        SignedOutside dead = Houses.of(new int[][] {{4, 0}}, letters(1, 60, 60, 1));
        Houses.days(dead, 6);
        due("a dead one on day 6", dead.stand(0, 0), 60);
        due("a dead one on day 6", dead.stand(0, 1), 1);
        dead.day();
        due("a dead one on day 7", dead.stand(0, 0), 0);
        due("a dead one on day 7", dead.stand(0, 1), 0);
    }

    private static void standByWeight() {
        SignedOutside x = Houses.of(new int[][] {{0, 0}, {1, 0}}, new int[][] {{50, 50, 2}, {80, 80, 5}, {10, 10, 6}});
        due("2 at most", x.stand(0, 0), 30);
        due("2 at most", x.stand(0, 1), 2);
        due("5 at most", x.stand(1, 0), 60);
        due("5 at most", x.stand(1, 1), 7);
        x.pay(0);
        due("nothing is light enough", x.stand(0, 0), 0);
        due("nothing is light enough", x.stand(0, 1), 0);
        due("that lies", x.stand(1, 1), 5);
    }

    /** "DUE: POSTAGE of all that lie." */
    private static void due() {
        SignedOutside x = Houses.of(new int[][] {{0, 0}}, new int[][] {});
        due("none", x.now(2), 0);
        x.letter(0, 99, 9);
        due("one", x.now(2), 63);
        x.letter(0, 0, 1);
        due("two", x.now(2), 64);
        x.frank(1, 0);
        due("one franked", x.now(2), 63);
        x.pay(0);
        due("none lies", x.now(2), 0);
        SignedOutside most = Houses.of(new int[][] {}, letters(6, 0, 99, 9));
        due("the most there can be", most.now(2), 378);
    }

    /** "the least price ... by which all LETTERS together bring no less than by POSTAGE". */
    private static void pennyNoLess() {
        int[][] miles = {{0, 0, 0}, {15, 0, 0}, {15, 15, 0}, {15, 15, 15}, {30, 15, 15}, {90, 90, 75}, {90, 90, 90}};
        int[] price = {1, 2, 2, 2, 3, 7, 7};
        int[] above = {1, 4, 5, 2, 7, 20, 7};
        int[] below = {1, 3, 3, 1, 3, 3, 1};
        for (int i = 0; i < miles.length; i++) {
            SignedOutside x = new SignedOutside();
            for (int m : miles[i]) {
                x.letter(0, m, 1);
            }
            due("penny, " + i, x.penny(), price[i]);
            due("above, " + i, x.part(0), above[i]);
            due("below, " + i, x.part(1), below[i]);
        }
        SignedOutside most = Houses.of(new int[][] {}, letters(6, 99, 0, 9));
        due("the dearest", most.penny(), 7);
        SignedOutside heavy = Houses.of(new int[][] {}, new int[][] {{0, 0, 9}, {0, 15, 1}});
        due("11 by 10", heavy.penny(), 2);
        due("above", heavy.part(0), 11);
        due("below", heavy.part(1), 10);
    }

    /** "PENNY (0: no LETTERS); THE FRACTION is as told (0 by 1: no LETTERS)". */
    private static void pennyOfNone() {
        SignedOutside x = Houses.busy();
        x.penny();
        check.holds("a fraction ahead of it", x.part(0) != 0 && x.part(1) != 1);
        x.house();
        due("no letters", x.penny(), 0);
        due("above", x.part(0), 0);
        due("below", x.part(1), 1);
        x.letter(0, 0, 1);
        due("one letter", x.penny(), 1);
        due("above", x.part(0), 1);
        due("below", x.part(1), 1);
    }

    /** "all LETTERS (lying or not)". */
    private static void pennyOfAllLetters() {
        SignedOutside x = Houses.of(new int[][] {{0, 0}}, new int[][] {{0, 15, 1}, {0, 30, 2}, {0, 0, 1}});
        due("lying", x.penny(), 3);
        x.frank(0, 0);
        due("one franked", x.penny(), 3);
        x.pay(1);
        due("one paid for", x.penny(), 3);
        x.pay(2);
        due("none lies", x.penny(), 3);
        due("above", x.part(0), 9);
        due("below", x.part(1), 4);
    }

    private static void whereIs(String name, SignedOutside x, int m, int d, int many, int least) {
        due(name + ": how many", x.where(m, d, 0), many);
        due(name + ": the least", x.where(m, d, 1), least);
    }

    private static SignedOutside covered(int kind, int... places) {
        SignedOutside x = Houses.of(new int[][] {{kind, 50}}, new int[][] {});
        for (int p : places) {
            x.cover(0, 5, p);
        }
        return x;
    }

    /** No covers of a day: every place there is. */
    private static void whereNoCovers() {
        for (int kind = 0; kind < 6; kind++) {
            whereIs("no covers, kind " + kind, covered(kind), 0, 5, 100, 0);
            whereIs("on another day, kind " + kind, covered(kind, 50, 0, 99), 0, 4, 100, 0);
            whereIs("on the first day, kind " + kind, covered(kind, 50), 0, 0, 100, 0);
            whereIs("on the last day, kind " + kind, covered(kind, 50), 0, 99, 100, 0);
        }
    }

    /** "as far as one may be from each of one's COVERS of it": twice so far apart, a mile less, a mile more. */
    private static void whereWithinReach() {
        int[] reach = {20, 20, 20, 40, 0, 10};
        for (int kind = 0; kind < 6; kind++) {
            int twice = 2 * reach[kind];
            whereIs("one cover, kind " + kind, covered(kind, 50), 0, 5, twice + 1, 50 - reach[kind]);
            whereIs("the same twice, kind " + kind, covered(kind, 50, 50), 0, 5, twice + 1, 50 - reach[kind]);
            whereIs("a mile less, kind " + kind, covered(kind, 10, 9 + twice), 0, 5, kind == 4 ? 0 : 2, kind == 4 ? NONE : 9 + reach[kind]);
            whereIs("twice, kind " + kind, covered(kind, 10, 10 + twice), 0, 5, 1, 10 + reach[kind]);
            whereIs("a mile more, kind " + kind, covered(kind, 10, 11 + twice), 0, 5, 0, NONE);
            whereIs("the other way round, kind " + kind, covered(kind, 11 + twice, 10), 0, 5, 0, NONE);
        }
        whereIs("the farthest apart", covered(3, 0, 99), 0, 5, 0, NONE);
        whereIs("three", covered(0, 50, 60, 40), 0, 5, 21, 40);
        whereIs("six", covered(0, 50, 51, 52, 53, 54, 55), 0, 5, 36, 35);
    }

    /** "PLACES (0 .. 99)": none beyond the road's ends. */
    private static void whereAtTheRoadsEnds() {
        whereIs("at 0", covered(0, 0), 0, 5, 21, 0);
        whereIs("at 19", covered(0, 19), 0, 5, 40, 0);
        whereIs("at 20", covered(0, 20), 0, 5, 41, 0);
        whereIs("at 21", covered(0, 21), 0, 5, 41, 1);
        whereIs("at 78", covered(0, 78), 0, 5, 41, 58);
        whereIs("at 79", covered(0, 79), 0, 5, 41, 59);
        whereIs("at 80", covered(0, 80), 0, 5, 40, 60);
        whereIs("at 99", covered(0, 99), 0, 5, 21, 79);
        whereIs("a dead one at 0", covered(4, 0), 0, 5, 1, 0);
        whereIs("a dead one at 99", covered(4, 99), 0, 5, 1, 99);
    }

    /** "one's COVERS of it": others' and other days' do not matter. */
    private static void whereOfDayAndMember() {
        SignedOutside x = Houses.of(new int[][] {{0, 50}, {0, 50}}, new int[][] {});
        x.cover(0, 0, 10);
        x.cover(0, 99, 60);
        x.cover(1, 0, 90);
        whereIs("0 on day 0", x, 0, 0, 31, 0);
        whereIs("0 on day 99", x, 0, 99, 41, 40);
        whereIs("1 on day 0", x, 1, 0, 30, 70);
        whereIs("1 on day 99", x, 1, 99, 100, 0);
        whereIs("0 on day 1", x, 0, 1, 100, 0);
        whereIs("0 on day 98", x, 0, 98, 100, 0);
    }

    /** "the greater part of these is least ...; of like ones the least". */
    private static void lookHalves() {
        due("no covers, plain: 41 of 100", covered(0).look(0, 5), 20);
        due("no covers, travels: 50 of 100", covered(3).look(0, 5), 9);
        due("no covers, dead: 1 of 100", covered(4).look(0, 5), 0);
        due("no covers, steward: 21 of 100", covered(5).look(0, 5), 10);
        due("at 0: 21, halved by 11", covered(0, 0).look(0, 5), 30);
        due("at 99: 21, halved by 10", covered(0, 99).look(0, 5), 68);
        due("at 50: 41, halved by 20", covered(0, 50).look(0, 5), 29);
        due("two places", covered(0, 0, 39).look(0, 5), 40);
        due("two places, none of them in reach from 0", covered(0, 60, 99).look(0, 5), 59);
        due("three places", covered(0, 60, 98).look(0, 5), 58);
        due("one place: all are alike", covered(0, 0, 40).look(0, 5), 0);
        due("one place of a dead one", covered(4, 0).look(0, 5), 0);
        due("one place of a dead one", covered(4, 99).look(0, 5), 0);
        due("the last day", covered(0, 50).look(0, 99), 20);
        due("the first day", covered(0, 50).look(0, 0), 20);
    }

    /** "LOOK. NONE." No place fits: none, and it is not refused. */
    private static void lookNone() {
        SignedOutside x = covered(0, 0, 41);
        due("no place", x.look(0, 5), NONE);
        due("no place", x.where(0, 5, 1), NONE);
        due("another day", x.look(0, 6), 20);
        due("status(0)", x.status(0), 0);
        due("status(1)", x.status(1), 0);
        due("status(2)", x.status(2), 0);
        x.forget(0);
        due("forgotten", x.look(0, 5), 20);
    }

    /** "so that for each DAY there is such a PLACE (for the true ones)". */
    private static void forgedByPlace() {
        int[] reach = {20, 20, 20, 40, 0, 10};
        for (int kind = 0; kind < 6; kind++) {
            int twice = 2 * reach[kind];
            due("twice so far, kind " + kind, covered(kind, 10, 10 + twice).forged(0), 0);
            due("a mile more, kind " + kind, covered(kind, 10, 11 + twice).forged(0), 1);
            due("none, kind " + kind, covered(kind).forged(0), 0);
            due("one, kind " + kind, covered(kind, 99).forged(0), 0);
        }
        SignedOutside x = Houses.of(new int[][] {{0, 0}, {0, 0}}, new int[][] {});
        x.cover(0, 0, 0);
        x.cover(0, 99, 41);
        x.cover(1, 0, 99);
        due("two days are apart", x.forged(0), 0);
        due("others are apart", x.forged(1), 0);
        x.cover(0, 0, 41);
        x.cover(0, 99, 99);
        x.cover(1, 99, 0);
        due("one of each day", x.forged(0), 1 + 2);
        due("the other's", x.forged(1), 0);
    }

    /** "and no more are true than one may sign on it". */
    private static void forgedByNumber() {
        for (int kind = 0; kind < 6; kind++) {
            for (int day : new int[] {4, 5, 6, 7, 8, 99}) {
                int may = kind == 4 && day >= 7 ? 0 : (kind == 2 || kind == 4) && day % 2 == 0 ? 5 : 6;
                for (int n = 0; n <= 6; n++) {
                    SignedOutside x = Houses.of(new int[][] {{kind, 0}}, new int[][] {});
                    for (int i = 0; i < n; i++) {
                        x.cover(0, day, 50);
                    }
                    due("kind " + kind + ", day " + day + ", covers " + n, x.forged(0), (1 << Math.max(0, n - may)) - 1);
                }
            }
        }
        SignedOutside x = Houses.of(new int[][] {{4, 0}, {0, 0}}, new int[][] {});
        x.cover(1, 7, 0);
        x.cover(0, 6, 0);
        x.cover(0, 7, 0);
        x.cover(1, 8, 0);
        x.cover(0, 8, 9);
        x.cover(0, 99, 9);
        due("the dead one's from day 7 on", x.forged(0), 4 + 16 + 32);
        due("the plain one's", x.forged(1), 0);
        // It is the day of the cover that counts, not today.
        Houses.days(x, 7);
        due("whatever today is", x.forged(0), 4 + 16 + 32);
    }

    /** "the fewest COVERS of a MEMBER (all DAYS; bits; of like ones the least)". */
    private static void forgedFewestThenLeast() {
        due("one, though two are the lesser bits", covered(0, 0, 1, 99).forged(0), 4);
        due("two, though three are the lesser bits", covered(0, 0, 1, 2, 60, 99).forged(0), 8 + 16);
        due("of two like ones the least", covered(0, 0, 0, 99, 99).forged(0), 1 + 2);
        due("the middle one", covered(0, 0, 99, 40).forged(0), 2);
        due("of a chain the first", covered(0, 0, 40, 80).forged(0), 1);
        due("five of six", covered(4, 0, 1, 2, 3, 4, 5).forged(0), 31);
        due("the last one", covered(0, 0, 0, 0, 0, 0, 99).forged(0), 32);
    }

    /** "KINDS (bits) by which all NOTES of it are so". */
    private static void isByNotes() {
        int[][] rows = {{0, 5, 4 + 16}, {0, 10, 1 + 2 + 8}, {0, 13, 32}, {1, 10, 31}, {1, 5, 0}, {1, 13, 32}, {6, 5, 20}, {6, 0, 0},
            {7, 0, 16}, {7, 10, 1 + 2 + 4 + 8}, {7, 5, 0}, {8, 0, 16}, {8, 5, 4}, {99, 0, 16}, {99, 10, 15}, {98, 5, 4},
            {0, 0, 0}, {0, 4, 0}, {0, 6, 0}, {0, 9, 0}, {0, 11, 0}, {0, 12, 0}, {0, 14, 0}, {0, 20, 0}, {99, 20, 0}};
        for (int[] row : rows) {
            SignedOutside x = Houses.of(new int[][] {{0, 0}, {4, 0}}, new int[][] {});
            due("no notes", x.is(0), 63);
            x.note(0, row[0], row[1]);
            due("day " + row[0] + ", n " + row[1], x.is(0), row[2]);
            due("the other's", x.is(1), 63);
            x.note(0, row[0], row[1]);
            due("once more", x.is(0), row[2]);
            x.note(0, 1, 10);
            due("and 10 on day 1", x.is(0), row[2] & 31);
            x.note(0, 0, 20);
            due("and what none may", x.is(0), 0);
            x.forget(1);
            due("forgotten", x.is(0), 63);
        }
    }

    /** "to who sells alone it is its POSTAGE, to each of both half (cut) of it less 1". */
    private static void sell() {
        int[][] rows = {{0, 1, 6}, {0, 2, 14}, {30, 1, 14}, {15, 2, 8}, {60, 1, 8}, {99, 2, 8}};
        for (int[] row : rows) {
            SignedOutside x = Houses.of(new int[][] {{0, 0}, {0, 0}}, new int[][] {{0, row[0], row[1]}});
            due("worth " + x.about(0, 3), x.sell(0, 1, 0), row[2]);
            due("worth " + x.about(0, 3) + ", the other way round", x.sell(1, 0, 0), row[2]);
        }
        SignedOutside last = Houses.of(new int[][] {{0, 0}, {0, 0}, {0, 0}, {0, 0}, {0, 0}}, letters(6, 0, 0, 1));
        due("the first and the last", last.sell(0, 4, 5), 6);
        due("the last and the first", last.sell(4, 0, 5), 6);
    }

    /** "(who may not frank it sells nothing even so)": to sell or not is alike to such a one. */
    private static void sellWhoMayNot() {
        SignedOutside x = Houses.of(new int[][] {{0, 20}, {0, 21}, {0, 99}}, new int[][] {{0, 0, 1}, {0, 60, 2}, {0, 0, 3}});
        due("a may, b may not, worth 1", x.sell(0, 1, 0), 2 + 8);
        due("b may, a may not, worth 1", x.sell(1, 0, 0), 4 + 8);
        due("a may, b may not, worth 10", x.sell(0, 1, 1), 2 + 8);
        due("neither may", x.sell(1, 2, 0), 15);
        due("too heavy for both", x.sell(0, 1, 2), 15);
        SignedOutside tired = Houses.of(new int[][] {{2, 0}, {0, 0}}, letters(6, 0, 0, 2));
        for (int l = 0; l < 4; l++) {
            tired.frank(l, 0);
        }
        due("a cover is left", tired.sell(0, 1, 5), 14);
        tired.frank(4, 0);
        due("none is left", tired.sell(0, 1, 5), 4 + 8);
    }

    private static void fractionIs(String name, SignedOutside x, long above, long below) {
        due(name + ": above", x.part(0), above);
        due(name + ": below", x.part(1), below);
    }

    /** "by c of 10 (0 .. 10) each LETTER that is FRANKED, apart, is found out, its POSTAGE to be paid". */
    private static void found() {
        SignedOutside x = Houses.of(new int[][] {{1, 0}}, new int[][] {{0, 99, 5}, {0, 0, 1}, {0, 0, 4}, {0, 0, 2}});
        due("none is franked", x.found(10), 1);
        fractionIs("none is franked", x, 0, 1);
        x.frank(0, 0);
        long[][] by = {{0, 1}, {7, 2}, {7, 1}, {21, 2}, {14, 1}, {35, 2}, {21, 1}, {49, 2}, {28, 1}, {63, 2}, {35, 1}};
        for (int c = 0; c <= 10; c++) {
            due("found(" + c + ")", x.found(c), 1);
            fractionIs("35 by " + c, x, by[c][0], by[c][1]);
        }
        x.pay(2);
        x.found(1);
        fractionIs("what is paid for is not found out", x, 7, 2);
        x.frank(1, 0);
        x.found(1);
        fractionIs("two franked", x, 18, 5);
        x.day();
        x.found(9);
        fractionIs("franked on another day", x, 162, 5);
        x.found(0);
        fractionIs("by 0", x, 0, 1);
        SignedOutside one = Houses.of(new int[][] {{0, 0}}, letters(1, 0, 0, 1));
        one.frank(0, 0);
        one.found(1);
        fractionIs("1 by 10", one, 1, 10);
        one.found(9);
        fractionIs("9 by 10", one, 9, 10);
        one.undo();
        one.found(9);
        fractionIs("it lies again", one, 0, 1);
    }

    /** "n (0 .. 60)", "SEED (0 .. 999999)": none, and with no one to frank or nothing to be franked. */
    private static void sessionsNone() {
        SignedOutside x = Houses.of(new int[][] {{0, 0}, {0, 0}, {0, 0}, {0, 0}, {0, 0}}, letters(6, 0, 0, 1));
        due("none of them", x.sessions(0, 0), 0);
        due("none of them", x.sessions(999999, 0), 0);
        due("sixty by the least seed", x.sessions(0, 60), 6);
        due("sixty by the greatest seed", x.sessions(999999, 60), 6);
        due("no letters", Houses.of(new int[][] {{0, 0}}, new int[][] {}).sessions(1, 60), 0);
        due("no members", Houses.of(new int[][] {}, letters(6, 0, 0, 1)).sessions(1, 60), 0);
        due("nothing at all", new SignedOutside().sessions(1, 60), 0);
    }

    /** The sessions done call by call: what they save is what now(0) rises by. */
    private static int byHand(SignedOutside x, int seed, int n) {
        int before = x.now(0);
        long value = seed;
        for (int i = 0; i < n; i++) {
            value = (value * 1103515245L + 12345L) % 2147483648L;
            int l = (int) (value / 65536 % 6);
            value = (value * 1103515245L + 12345L) % 2147483648L;
            x.frank(l, (int) (value / 65536 % 5));
            if (value / 1048576 % 4 == 0) {
                x.day();
            }
        }
        return x.now(0) - before;
    }

    private static SignedOutside sessionHouse(int number) {
        switch (number) {
            case 0: return Houses.of(new int[][] {{0, 0}}, new int[][] {{0, 99, 1}});
            case 1: return Houses.of(new int[][] {{2, 50}, {2, 50}}, new int[][] {{50, 0, 1}, {51, 99, 2}, {70, 0, 2}, {71, 50, 1}, {30, 30, 1}, {50, 50, 1}});
            case 2: return Houses.of(new int[][] {{4, 50}, {4, 50}, {4, 50}, {4, 50}, {4, 50}}, letters(6, 50, 99, 2));
            case 3:
                SignedOutside late = Houses.of(new int[][] {{4, 50}, {4, 50}, {4, 50}, {0, 99}, {4, 50}}, letters(6, 50, 99, 2));
                Houses.days(late, 5);
                return late;
            case 4:
                SignedOutside over = Houses.of(new int[][] {{4, 50}, {4, 50}, {4, 50}, {4, 50}, {4, 50}}, letters(6, 50, 99, 2));
                Houses.days(over, 7);
                return over;
            case 5: return Houses.busy();
            case 6: return Houses.crowded();
            default: return Houses.of(new int[][] {{1, 0}, {3, 60}, {5, 20}}, new int[][] {{0, 15, 5}, {20, 0, 2}, {30, 99, 1}, {99, 0, 2}, {10, 0, 4}});
        }
    }

    private static void sessionsAsByHand() {
        int[] seeds = {0, 1, 2, 7, 1000, 65536, 123456, 500000, 999998, 999999};
        for (int number = 0; number < 8; number++) {
            int saved = 0;
            for (int seed : seeds) {
                for (int n : new int[] {0, 1, 2, 3, 10, 30, 59, 60}) {
                    SignedOutside x = sessionHouse(number);
                    int want = byHand(sessionHouse(number), seed, n);
                    due("house " + number + ": sessions(" + seed + ", " + n + ")", x.sessions(seed, n), want);
                    saved += want;
                }
            }
            check.holds("house " + number + " saves something, but for the dead ones", saved > 0 == (number != 4));
        }
    }

    /** "franked, if one MAY": who and what was there in an earlier house franks nothing and is not franked. */
    private static void sessionsOfWhoIsThere() {
        for (int members = 0; members <= 5; members++) {
            for (int left = 0; left <= 6; left++) {
                SignedOutside x = Houses.of(new int[][] {{0, 0}, {0, 0}, {0, 0}, {0, 0}, {0, 0}}, letters(6, 0, 0, 1));
                x.house();
                for (int m = 0; m < members; m++) {
                    x.member(0, 0);
                }
                for (int l = 0; l < left; l++) {
                    x.letter(0, 0, 1);
                }
                int saved = x.sessions(3, 60);
                check.holds(members + " members, " + left + " letters: " + saved, saved <= left && (members > 0 || saved == 0));
                due(members + " members, " + left + " letters", saved, byHand(x, 3, 60));
            }
        }
    }

    /**
     * "X (the second one) by 1048576 (cut), by 4 left over, is 0: a DAY goes by then". The second X of these
     * seeds is 1699 * 1048576 + 1048575, just ahead of such a stretch; 816 * 1048576 + 2, at its beginning;
     * 517 * 1048576, just behind one. Behind day 6 the dead sign no more, so that the second letter tells it.
     */
    private static void sessionsWhenADayGoesBy() {
        SignedOutside x = Houses.of(new int[][] {{4, 0}, {4, 0}, {4, 0}, {4, 0}, {4, 0}}, letters(6, 0, 0, 1));
        Houses.days(x, 6);
        due("just ahead", x.sessions(328537, 2), 2);
        due("at the beginning", x.sessions(705764, 2), 1);
        due("just behind", x.sessions(104754, 2), 2);
        x.undo();
        due("on day 5 there is a day left", x.sessions(705764, 2), 2);
    }
}
