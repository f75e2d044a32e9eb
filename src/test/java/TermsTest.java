/** The sentences of 'Terms' on places, days, members, letters, postage and kinds, at their bounds. */
public final class TermsTest {
    private static final int NONE = SignedOutside.NONE, NO = SignedOutside.NO;
    private static final int PLAIN = 0, LORD = 1, SICK = 2, TRAVELS = 3, DEAD = 4, STEWARD = 5;
    private static final Check check = new Check();

    private TermsTest() { }

    public static void main(String[] args) {
        places();
        dayAtFirst();
        dayAtMost();
        membersAsTheyCome();
        lettersAsTheyCome();
        zeroAtFirst();
        postageByMiles();
        postageByWeight();
        coversOfPlain();
        coversOfLord();
        coversOfSick();
        coversOfTravels();
        coversOfDead();
        coversOfSteward();
        coversAreFewer();
        howFar();
        whichWeight();
        mayOnlyWhatLies();
        franking();
        paying();
        aDay();
        check.end("TermsTest");
    }

    private static void due(String call, long got, long want) {
        check.due(call, got, want);
    }

    /** "PLACES 0 .. 99": the first and the last, wherever a place is told. */
    private static void places() {
        for (int place : new int[] {0, 1, 98, 99}) {
            SignedOutside x = new SignedOutside();
            due("a member at " + place, x.member(0, place), 0);
            due("is there", x.of(0, 1), place);
            due("a letter from " + place, x.letter(place, 50, 1), 0);
            due("is from there", x.about(0, 0), place);
            due("a letter to " + place, x.letter(50, place, 1), 1);
            due("is to there", x.about(1, 1), place);
            due("a cover at " + place, x.cover(0, 0, place), 1);
            x.moves(0, 50);
            due("moves to " + place, x.moves(0, place), 50);
            due("is there", x.of(0, 1), place);
        }
    }

    /** "DAYS have numbers, 0 at first". */
    private static void dayAtFirst() {
        SignedOutside x = new SignedOutside();
        due("the day at first", x.count(2), 0);
        due("the day behind it", x.day(), 1);
        due("the day behind it", x.count(2), 1);
        x.house();
        due("the day of a house anew", x.count(2), 0);
        Houses.days(x, 3);
        due("a house is read", Houses.read(x, "house;"), 1);
        due("its day", x.count(2), 0);
    }

    /** "(999 at most)": no 512 calls come there, but the words tell it all the same. */
    private static void dayAtMost() {
        SignedOutside x = Houses.told("house;member 0 0;letter 0 0 1;");
        Houses.days(x, 997);
        due("the day 998", x.day(), 998);
        due("the day 999", x.day(), 999);
        x.frank(0, 0);
        due("covers signed on it", x.of(0, 2), 1);
        due("it stays 999", x.day(), 999);
        due("all the same: none are signed", x.of(0, 2), 0);
        due("all the same: it is undone", x.undo(), 999);
        due("covers signed as ahead of it", x.of(0, 2), 1);
        due("frank is undone", x.undo(), 999);
        due("the day 999 is undone", x.undo(), 998);
    }

    /** "MEMBERS 0 .. 4, as they come: a KIND, a PLACE." */
    private static void membersAsTheyCome() {
        SignedOutside x = new SignedOutside();
        for (int m = 0; m < 5; m++) {
            due("how many ahead of it", x.count(0), m);
            due("the member's number", x.member(5 - m, 90 + m), m);
        }
        due("a 6th", x.member(0, 0), SignedOutside.FULL);
        due("how many", x.count(0), 5);
        for (int m = 0; m < 5; m++) {
            due("kind of " + m, x.of(m, 0), 5 - m);
            due("place of " + m, x.of(m, 1), 90 + m);
        }
    }

    /** "LETTERS 0 .. 5, as they come: from a PLACE, to a PLACE, a WEIGHT (1 .. 9)". */
    private static void lettersAsTheyCome() {
        int[] weights = {1, 2, 5, 8, 9, 1};
        SignedOutside x = new SignedOutside();
        for (int l = 0; l < 6; l++) {
            due("how many ahead of it", x.count(1), l);
            due("the letter's number", x.letter(l, 99 - l, weights[l]), l);
        }
        due("a 7th", x.letter(0, 0, 1), SignedOutside.FULL);
        due("how many", x.count(1), 6);
        due("how many lie", x.count(3), 6);
        for (int l = 0; l < 6; l++) {
            due("from of " + l, x.about(l, 0), l);
            due("to of " + l, x.about(l, 1), 99 - l);
            due("weight of " + l, x.about(l, 2), weights[l]);
            due("it lies", x.about(l, 4), NONE);
        }
    }

    /** "Covers SIGNED today by each (0 at first), SAVED, SPENT (0)." */
    private static void zeroAtFirst() {
        SignedOutside x = Houses.crowded();
        x.house();
        for (int m = 0; m < 5; m++) {
            x.member(m, 50);
            due("signed by " + m + " at first", x.of(m, 2), 0);
        }
        due("saved at first", x.now(0), 0);
        due("spent at first", x.now(1), 0);
        SignedOutside late = Houses.told("house;member 0 0;letter 0 0 1;frank 0 0;");
        late.member(1, 0);
        due("signed by one who comes late", late.of(1, 2), 0);
        due("signed by one who was there", late.of(0, 2), 1);
    }

    /** "1 and its miles by 15, cut": just below, at and just above each step, both ways along the road. */
    private static void postageByMiles() {
        int[][] steps = {{0, 1}, {1, 1}, {14, 1}, {15, 2}, {16, 2}, {29, 2}, {30, 3}, {31, 3}, {44, 3}, {45, 4}, {46, 4},
            {59, 4}, {60, 5}, {61, 5}, {74, 5}, {75, 6}, {76, 6}, {89, 6}, {90, 7}, {91, 7}, {98, 7}, {99, 7}};
        for (int[] step : steps) {
            SignedOutside x = new SignedOutside();
            x.letter(0, step[0], 1);
            x.letter(step[0], 0, 1);
            x.letter(99 - step[0], 99, 1);
            x.letter(99, 99 - step[0], 1);
            for (int l = 0; l < 4; l++) {
                due(step[0] + " miles, " + l, x.about(l, 3), step[1]);
            }
        }
    }

    /** "WEIGHT times (1 and its miles by 15, cut)": the cut goes ahead of the times. */
    private static void postageByWeight() {
        for (int weight = 1; weight <= 9; weight++) {
            SignedOutside x = new SignedOutside();
            x.letter(50, 50, weight);
            x.letter(50, 64, weight);
            x.letter(50, 35, weight);
            x.letter(0, 99, weight);
            due("weight " + weight + ", no miles", x.about(0, 3), weight);
            due("weight " + weight + ", 14 miles", x.about(1, 3), weight);
            due("weight " + weight + ", 15 miles", x.about(2, 3), 2 * weight);
            due("weight " + weight + ", 99 miles", x.about(3, 3), 7 * weight);
        }
    }

    private static void covers(int kind, int... byDay) {
        SignedOutside x = new SignedOutside();
        x.member(kind, 50);
        for (int d = 0; d < byDay.length; d++) {
            due("covers of kind " + kind + " on day " + d, x.of(0, 3), byDay[d]);
            x.day();
        }
        Houses.days(x, 100 - byDay.length);
        due("covers of kind " + kind + " on day 100", x.of(0, 3), byDay[8]);
        x.day();
        due("covers of kind " + kind + " on day 101", x.of(0, 3), byDay[9]);
    }

    private static void coversOfPlain() {
        covers(PLAIN, 10, 10, 10, 10, 10, 10, 10, 10, 10, 10);
    }

    private static void coversOfLord() {
        covers(LORD, 10, 10, 10, 10, 10, 10, 10, 10, 10, 10);
    }

    /** "half (cut) of PLAIN on DAYS of an even number, else as PLAIN". */
    private static void coversOfSick() {
        covers(SICK, 5, 10, 5, 10, 5, 10, 5, 10, 5, 10);
    }

    private static void coversOfTravels() {
        covers(TRAVELS, 10, 10, 10, 10, 10, 10, 10, 10, 10, 10);
    }

    /** "as SICK, 0 from DAY 7 on". */
    private static void coversOfDead() {
        covers(DEAD, 5, 10, 5, 10, 5, 10, 5, 0, 0, 0);
    }

    /** "3 more than LORD". */
    private static void coversOfSteward() {
        covers(STEWARD, 13, 13, 13, 13, 13, 13, 13, 13, 13, 13);
    }

    /** "fewer covers SIGNED today than one may": six letters reach the bound of five and that of none. */
    private static void coversAreFewer() {
        int[] kinds = {PLAIN, LORD, SICK, TRAVELS, DEAD, STEWARD};
        for (int kind : kinds) {
            for (int day : new int[] {0, 1, 6, 7, 8}) {
                SignedOutside x = Houses.of(new int[][] {{kind, 50}},
                    new int[][] {{50, 0, 1}, {50, 0, 1}, {50, 0, 1}, {50, 0, 1}, {50, 0, 1}, {50, 0, 1}});
                Houses.days(x, day);
                int most = kind == DEAD && day >= 7 ? 0 : (kind == SICK || kind == DEAD) && day % 2 == 0 ? 5 : 6;
                for (int l = 0; l < 6; l++) {
                    String name = "kind " + kind + ", day " + day + ", cover " + (l + 1);
                    due(name + ": may", x.may(l), l < most ? 1 : 0);
                    due(name + ": frank", x.frank(l, 0), l < most ? 4 : NO);
                    due(name + ": signed", x.of(0, 2), Math.min(l + 1, most));
                }
            }
        }
    }

    /** "from a PLACE not further": as far as one may, one mile less, one more, on both sides. */
    private static void howFar() {
        int[] reach = {20, 20, 20, 40, 0, 10};
        for (int kind = 0; kind < 6; kind++) {
            SignedOutside x = new SignedOutside();
            x.member(kind, 50);
            int[] miles = {reach[kind] - 1, reach[kind], reach[kind] + 1};
            for (int m : miles) {
                x.letter(50 + m, 0, 1);
                x.letter(50 - m, 0, 1);
            }
            due("how far, kind " + kind, x.of(0, 4), reach[kind]);
            for (int l = 0; l < 6; l++) {
                boolean near = Math.abs(miles[l / 2]) <= reach[kind];
                due("kind " + kind + ", " + miles[l / 2] + " miles, " + l, x.may(l), near ? 1 : 0);
            }
        }
        SignedOutside x = Houses.of(new int[][] {{TRAVELS, 0}, {TRAVELS, 99}},
            new int[][] {{40, 0, 1}, {41, 0, 1}, {59, 0, 1}, {58, 0, 1}, {0, 0, 1}, {99, 0, 1}});
        int[] may = {1, 0, 2, 0, 1, 2};
        for (int l = 0; l < 6; l++) {
            due("from the road's ends, letter " + l, x.may(l), may[l]);
        }
    }

    /** "of a WEIGHT not more": as heavy as one's cover bears, one less, one more. */
    private static void whichWeight() {
        int[] bears = {2, 5, 2, 2, 2, 5};
        for (int kind = 0; kind < 6; kind++) {
            SignedOutside x = new SignedOutside();
            x.member(kind, 50);
            int[] weights = {1, bears[kind] - 1, bears[kind], bears[kind] + 1, 9};
            for (int w : weights) {
                x.letter(50, 50, w);
            }
            due("weight of kind " + kind, x.of(0, 5), bears[kind]);
            for (int l = 0; l < weights.length; l++) {
                due("kind " + kind + ", weight " + weights[l], x.may(l), weights[l] <= bears[kind] ? 1 : 0);
            }
        }
    }

    /** "A MEMBER MAY frank a LETTER that lies". */
    private static void mayOnlyWhatLies() {
        SignedOutside x = Houses.of(new int[][] {{0, 0}, {0, 0}}, new int[][] {{0, 0, 1}, {0, 0, 1}, {0, 0, 1}});
        x.frank(0, 0);
        x.pay(1);
        due("franked", x.may(0), 0);
        due("paid for", x.may(1), 0);
        due("it lies", x.may(2), 3);
        x.undo();
        due("it lies again", x.may(1), 3);
    }

    /** "FRANKING: SIGNED is one more, SAVED as much more as the POSTAGE." */
    private static void franking() {
        SignedOutside x = Houses.of(new int[][] {{LORD, 0}, {LORD, 0}}, new int[][] {{0, 99, 5}, {0, 0, 1}, {0, 15, 2}});
        due("the dearest that can be franked", x.frank(0, 1), 35);
        due("the cheapest", x.frank(1, 1), 1);
        due("signed by 1", x.of(1, 2), 2);
        due("signed by 0", x.of(0, 2), 0);
        due("saved", x.now(0), 36);
        due("by 0", x.frank(2, 0), 4);
        due("signed by 0", x.of(0, 2), 1);
        due("saved", x.now(0), 40);
        due("spent", x.now(1), 0);
        due("who franked it", x.about(0, 4), 1);
        due("who franked it", x.about(2, 4), 0);
        due("none lie", x.count(3), 0);
    }

    /** "PAYING: SPENT is so much more." */
    private static void paying() {
        SignedOutside x = Houses.of(new int[][] {{LORD, 0}}, new int[][] {{0, 99, 9}, {0, 0, 1}, {0, 15, 2}});
        due("the dearest there is", x.pay(0), 63);
        due("the cheapest there is", x.pay(1), 1);
        due("spent", x.now(1), 64);
        due("saved", x.now(0), 0);
        due("signed", x.of(0, 2), 0);
        due("paid", x.about(0, 4), 5);
        due("that lie", x.count(3), 1);
    }

    /** "A DAY: SIGNED are 0; the DAY is one more." */
    private static void aDay() {
        SignedOutside x = Houses.of(new int[][] {{0, 0}, {1, 0}, {2, 0}, {3, 0}, {5, 0}},
            new int[][] {{0, 0, 1}, {0, 0, 1}, {0, 0, 1}, {0, 0, 1}, {0, 0, 1}, {0, 0, 1}});
        for (int l = 0; l < 5; l++) {
            x.frank(l, l);
        }
        x.pay(5);
        due("the day", x.day(), 1);
        for (int m = 0; m < 5; m++) {
            due("signed by " + m, x.of(m, 2), 0);
            due("franked by " + m, x.about(m, 4), m);
        }
        due("saved stays", x.now(0), 5);
        due("spent stays", x.now(1), 1);
    }
}
