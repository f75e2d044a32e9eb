import java.util.Arrays;

/** The house whose members frank letters by signing them on the outside. */
public final class SignedOutside {
    public static final int NONE = -1, BAD = -2, NO = -3, FULL = -4;

    private static final int KINDS = 6;
    private static final int MOST_MEMBERS = 5;
    private static final int MOST_LETTERS = 6;
    private static final int LAST_PLACE = 99;
    private static final int LAST_DAY = 999;
    private static final int LAST_SLIP_DAY = 99;
    private static final int MOST_NOTED = 20;
    private static final int HEAVIEST = 9;
    private static final int PAID = 5;
    private static final int NOT_LYING = 6;
    private static final int IMAGES = 2;
    private static final int OTHER_BAD = -10;
    private static final int FAULT_BASE = -10;
    private static final int LAST_SEED = 999999;
    private static final int MOST_SESSIONS = 60;

    private final House house;
    /** A second house to try things in: what a text tells, what sessions bring. */
    private final House draft;
    private final House[] images;
    private final boolean[] kept;
    private final Names names;
    private final Reader reader;
    private long above;
    private long below;
    private int badCalls;
    private int noCalls;
    private int fullCalls;

    public SignedOutside() {
        Plain[] kinds = {new Plain(), new Lord(), new Sick(), new Travels(), new Dead(), new Steward()};
        house = new House(kinds);
        draft = new House(kinds);
        images = new House[] {new House(kinds), new House(kinds)};
        kept = new boolean[IMAGES];
        names = new Names();
        reader = new Reader();
        above = 0;
        below = 1;
    }

    // ---- a house

    public int house() {
        int before = house.members;
        house.makeEmpty();
        return before;
    }

    public int member(int kind, int place) {
        if (!within(kind, 0, KINDS - 1) || !isPlace(place)) {
            return refuseBad();
        }
        if (house.members >= MOST_MEMBERS) {
            return refuseFull();
        }
        house.past.makeEmpty();
        return house.addMember(kind, place);
    }

    public int letter(int from, int to, int weight) {
        if (!isPlace(from) || !isPlace(to) || !within(weight, 1, HEAVIEST)) {
            return refuseBad();
        }
        if (house.letters >= MOST_LETTERS) {
            return refuseFull();
        }
        house.past.makeEmpty();
        return house.addLetter(from, to, weight);
    }

    public int type(int c) {
        if (!within(c, 0, 127)) {
            return refuseBad();
        }
        if (!reader.append(c)) {
            return refuseFull();
        }
        return reader.length;
    }

    public int clear() {
        int before = reader.length;
        reader.length = 0;
        return before;
    }

    public int read() {
        draft.makeEmpty();
        int items = reader.readInto(draft);
        if (items == NONE) {
            return FAULT_BASE - reader.start;
        }
        house.takeOver(draft);
        return items;
    }

    // ---- days

    public int frank(int l, int m) {
        if (!isLetter(l) || !isMember(m)) {
            return refuseBad();
        }
        if (!house.mayFrank(l, m)) {
            return refuseNo();
        }
        house.past.keep(house);
        house.sign(l, m);
        return house.postage(l);
    }

    public int pay(int l) {
        if (!isLetter(l)) {
            return refuseBad();
        }
        if (!house.lies(l)) {
            return refuseNo();
        }
        house.past.keep(house);
        house.settle(l);
        return house.postage(l);
    }

    public int moves(int m, int place) {
        if (!isMember(m) || !isPlace(place)) {
            return refuseBad();
        }
        house.past.keep(house);
        int before = house.placeOf[m];
        house.placeOf[m] = place;
        return before;
    }

    public int day() {
        house.past.keep(house);
        house.passDay();
        return house.today;
    }

    public int undo() {
        if (!house.past.giveBack(house)) {
            return refuseNo();
        }
        return house.today;
    }

    public int of(int m, int what) {
        if (!isMember(m)) {
            return refuseBad();
        }
        Plain kind = house.kindAt(m);
        switch (what) {
            case 0: return house.kindOf[m];
            case 1: return house.placeOf[m];
            case 2: return house.signed[m];
            case 3: return kind.signs(house.today);
            case 4: return kind.reach();
            case 5: return kind.bears();
            default: return refuseBad();
        }
    }

    public int about(int l, int what) {
        if (!isLetter(l)) {
            return refuseOtherBad();
        }
        switch (what) {
            case 0: return house.origin[l];
            case 1: return house.goal[l];
            case 2: return house.weight[l];
            case 3: return house.postage(l);
            case 4: return house.mark[l];
            default: return refuseOtherBad();
        }
    }

    public int now(int what) {
        switch (what) {
            case 0: return house.saved;
            case 1: return house.spent;
            case 2: return house.postageDue();
            default: return refuseBad();
        }
    }

    // ---- whose names

    public int may(int l) {
        if (!isLetter(l)) {
            return refuseBad();
        }
        return house.whoMayFrank(l);
    }

    public int all(int l) {
        if (l != NONE && !isLetter(l)) {
            return refuseOtherBad();
        }
        int most = names.solve(house, everyMember());
        return l == NONE ? most : names.best[l];
    }

    public int fewest() {
        int due = house.postageDue();
        int found = NONE;
        for (int set = 0; set <= everyMember(); set++) {
            boolean fewer = found == NONE || Integer.bitCount(set) < Integer.bitCount(found);
            // Each letter costs at least 1, so that all is saved only if all are franked.
            if (fewer && names.solve(house, set) == due) {
                found = set;
            }
        }
        return found;
    }

    public int stand(int m, int what) {
        if (!isMember(m) || !within(what, 0, 1)) {
            return refuseBad();
        }
        int place = names.bestPlace(house, m);
        return what == 0 ? place : names.most;
    }

    public int penny() {
        int postage = house.postageOfEvery();
        int weight = house.weightOfEvery();
        if (weight <= 0) {
            setFraction(0, 1);
            return 0;
        }
        setFraction(postage, weight);
        return (postage + weight - 1) / weight;
    }

    // ---- where one was

    public int cover(int m, int d, int p) {
        if (!isMember(m) || !isSlipDay(d) || !isPlace(p)) {
            return refuseBad();
        }
        if (!house.covers.add(m, d, p)) {
            return refuseFull();
        }
        return house.covers.size;
    }

    public int note(int m, int d, int n) {
        if (!isMember(m) || !isSlipDay(d) || !within(n, 0, MOST_NOTED)) {
            return refuseBad();
        }
        if (!house.notes.add(m, d, n)) {
            return refuseFull();
        }
        return house.notes.size;
    }

    public int forget(int what) {
        if (!within(what, 0, 1)) {
            return refuseBad();
        }
        Slips slips = what == 0 ? house.covers : house.notes;
        int before = slips.size;
        slips.size = 0;
        return before;
    }

    public int where(int m, int d, int what) {
        if (!isMember(m) || !isSlipDay(d) || !within(what, 0, 1)) {
            return refuseBad();
        }
        int set = house.covers.onDay(m, d);
        int reach = house.kindAt(m).reach();
        int places = house.covers.placesFor(set, reach);
        if (what == 0) {
            return places;
        }
        return places == 0 ? NONE : house.covers.lowest(set, reach);
    }

    public int look(int m, int d) {
        if (!isMember(m) || !isSlipDay(d)) {
            return refuseBad();
        }
        return house.covers.nextPlace(house.covers.onDay(m, d), house.kindAt(m).reach());
    }

    public int forged(int m) {
        if (!isMember(m)) {
            return refuseBad();
        }
        return house.covers.fewestFalse(m, house.kindAt(m));
    }

    public int is(int m) {
        if (!isMember(m)) {
            return refuseBad();
        }
        return house.notes.kindsNoted(m, house.kinds);
    }

    public int sell(int a, int b, int l) {
        if (!isMember(a) || !isMember(b) || a == b || !isLetter(l)) {
            return refuseBad();
        }
        if (!house.lies(l)) {
            return refuseNo();
        }
        return names.pairsThatRest(house.mayFrank(l, a), house.mayFrank(l, b), house.postage(l));
    }

    public int found(int c) {
        if (!within(c, 0, 10)) {
            return refuseBad();
        }
        setFraction((long) c * house.postageFranked(), 10);
        return 1;
    }

    public int sessions(int seed, int n) {
        if (!within(seed, 0, LAST_SEED) || !within(n, 0, MOST_SESSIONS)) {
            return refuseBad();
        }
        draft.takeOver(house);
        long x = seed;
        for (int i = 0; i < n; i++) {
            x = nextX(x);
            int l = (int) (x / 65536 % MOST_LETTERS);
            x = nextX(x);
            int m = (int) (x / 65536 % MOST_MEMBERS);
            if (l < draft.letters && m < draft.members && draft.mayFrank(l, m)) {
                draft.sign(l, m);
            }
            if (x / 1048576 % 4 == 0) {
                draft.passDay();
            }
        }
        return draft.saved - house.saved;
    }

    // ---- what there is

    public long part(int what) {
        switch (what) {
            case 0: return above;
            case 1: return below;
            default: return refuseBad();
        }
    }

    public int image(int i) {
        if (!within(i, 0, IMAGES - 1)) {
            return refuseBad();
        }
        images[i].takeOver(house);
        kept[i] = true;
        return 1;
    }

    public int from(int i) {
        if (!within(i, 0, IMAGES - 1)) {
            return refuseBad();
        }
        if (!kept[i]) {
            return refuseNo();
        }
        house.takeOver(images[i]);
        return 1;
    }

    public int status(int what) {
        switch (what) {
            case 0: return badCalls;
            case 1: return noCalls;
            case 2: return fullCalls;
            default:
                refuseBad();
                return NONE;
        }
    }

    public int count(int what) {
        if (!within(what, 0, 7)) {
            return refuseBad();
        }
        return howMany(what);
    }

    public long digest() {
        long h = 1289;
        for (int what = 0; what <= 7; what++) {
            h = mix(h, howMany(what));
        }
        h = mix(mix(h, house.saved), house.spent);
        for (int m = 0; m < house.members; m++) {
            h = mix(mix(mix(h, house.kindOf[m]), house.placeOf[m]), house.signed[m]);
        }
        for (int l = 0; l < house.letters; l++) {
            h = mix(mix(h, house.origin[l]), house.goal[l]);
            h = mix(mix(h, house.weight[l]), house.mark[l]);
        }
        h = mixSlips(mixSlips(h, house.covers), house.notes);
        return mix(mix(h, above), below);
    }

    private int howMany(int what) {
        switch (what) {
            case 0: return house.members;
            case 1: return house.letters;
            case 2: return house.today;
            case 3: return house.howManyLie();
            case 4: return house.covers.size;
            case 5: return house.notes.size;
            case 6: return house.past.size;
            default: return reader.length;
        }
    }

    private static long mix(long h, long v) {
        return 31 * h + v;
    }

    private static long mixSlips(long start, Slips slips) {
        long h = start;
        for (int i = 0; i < slips.size; i++) {
            h = mix(mix(mix(h, slips.memberOf[i]), slips.dayOf[i]), slips.valueOf[i]);
        }
        return h;
    }

    private static long nextX(long x) {
        return (x * 1103515245L + 12345L) % 2147483648L;
    }

    private static boolean within(int value, int least, int most) {
        return value >= least && value <= most;
    }

    private static boolean isPlace(int place) {
        return within(place, 0, LAST_PLACE);
    }

    private static boolean isSlipDay(int d) {
        return within(d, 0, LAST_SLIP_DAY);
    }

    private boolean isMember(int m) {
        return within(m, 0, house.members - 1);
    }

    private boolean isLetter(int l) {
        return within(l, 0, house.letters - 1);
    }

    private int everyMember() {
        return (1 << house.members) - 1;
    }

    private int refuseBad() {
        badCalls++;
        return BAD;
    }

    private int refuseOtherBad() {
        badCalls++;
        return OTHER_BAD;
    }

    private int refuseNo() {
        noCalls++;
        return NO;
    }

    private int refuseFull() {
        fullCalls++;
        return FULL;
    }

    private void setFraction(long top, long bottom) {
        long divisor = commonDivisor(top, bottom);
        if (divisor > 0) {
            above = top / divisor;
            below = bottom / divisor;
        }
    }

    private static long commonDivisor(long a, long b) {
        long x = a;
        long y = b;
        // Two steps at least halve the greater one: a hundred are more than any long needs.
        for (int i = 0; i < 100 && y != 0; i++) {
            long rest = x % y;
            x = y;
            y = rest;
        }
        return x;
    }

    /** A plain member: each other kind stands under one that it alters. */
    private static class Plain {
        int signs(int day) {
            return 10;
        }

        int reach() {
            return 20;
        }

        int bears() {
            return 2;
        }
    }

    private static class Lord extends Plain {
        int bears() {
            return super.bears() + 3;
        }
    }

    private static class Sick extends Plain {
        int signs(int day) {
            return day % 2 == 0 ? super.signs(day) / 2 : super.signs(day);
        }
    }

    private static final class Travels extends Plain {
        int reach() {
            return 2 * super.reach();
        }
    }

    private static final class Dead extends Sick {
        int signs(int day) {
            return day >= 7 ? 0 : super.signs(day);
        }

        int reach() {
            return 0;
        }
    }

    private static final class Steward extends Lord {
        int signs(int day) {
            return super.signs(day) + 3;
        }

        int reach() {
            return super.reach() / 2;
        }
    }

    /** All that an image keeps. Its callers have looked at every number that they hand in. */
    private static final class House {
        final Plain[] kinds;
        int members;
        final int[] kindOf = new int[MOST_MEMBERS];
        final int[] placeOf = new int[MOST_MEMBERS];
        final int[] signed = new int[MOST_MEMBERS];
        int letters;
        final int[] origin = new int[MOST_LETTERS];
        final int[] goal = new int[MOST_LETTERS];
        final int[] weight = new int[MOST_LETTERS];
        /** Who franked it, PAID, or NONE while it lies. */
        final int[] mark = new int[MOST_LETTERS];
        int today;
        int saved;
        int spent;
        final Slips covers = new Slips();
        final Slips notes = new Slips();
        final Past past = new Past();

        House(Plain[] kinds) {
            this.kinds = kinds;
        }

        void makeEmpty() {
            members = 0;
            letters = 0;
            today = 0;
            saved = 0;
            spent = 0;
            covers.size = 0;
            notes.size = 0;
            past.makeEmpty();
        }

        void takeOver(House other) {
            members = other.members;
            System.arraycopy(other.kindOf, 0, kindOf, 0, MOST_MEMBERS);
            System.arraycopy(other.placeOf, 0, placeOf, 0, MOST_MEMBERS);
            System.arraycopy(other.signed, 0, signed, 0, MOST_MEMBERS);
            letters = other.letters;
            System.arraycopy(other.origin, 0, origin, 0, MOST_LETTERS);
            System.arraycopy(other.goal, 0, goal, 0, MOST_LETTERS);
            System.arraycopy(other.weight, 0, weight, 0, MOST_LETTERS);
            System.arraycopy(other.mark, 0, mark, 0, MOST_LETTERS);
            today = other.today;
            saved = other.saved;
            spent = other.spent;
            covers.takeOver(other.covers);
            notes.takeOver(other.notes);
            past.takeOver(other.past);
        }

        int addMember(int kind, int place) {
            kindOf[members] = kind;
            placeOf[members] = place;
            signed[members] = 0;
            members++;
            return members - 1;
        }

        int addLetter(int from, int to, int heavy) {
            origin[letters] = from;
            goal[letters] = to;
            weight[letters] = heavy;
            mark[letters] = NONE;
            letters++;
            return letters - 1;
        }

        Plain kindAt(int m) {
            return kinds[kindOf[m]];
        }

        boolean lies(int l) {
            return mark[l] == NONE;
        }

        int postage(int l) {
            return weight[l] * (1 + Math.abs(origin[l] - goal[l]) / 15);
        }

        int coversLeft(int m) {
            return Math.max(0, kindAt(m).signs(today) - signed[m]);
        }

        /** Whether a member, standing at a place, could bear a letter there, its covers aside. */
        boolean suits(int l, int m, int place) {
            Plain kind = kindAt(m);
            return Math.abs(place - origin[l]) <= kind.reach() && weight[l] <= kind.bears();
        }

        boolean mayFrank(int l, int m) {
            return lies(l) && signed[m] < kindAt(m).signs(today) && suits(l, m, placeOf[m]);
        }

        int whoMayFrank(int l) {
            int bits = 0;
            for (int m = 0; m < members; m++) {
                if (mayFrank(l, m)) {
                    bits |= 1 << m;
                }
            }
            return bits;
        }

        void sign(int l, int m) {
            mark[l] = m;
            signed[m]++;
            saved += postage(l);
        }

        void settle(int l) {
            mark[l] = PAID;
            spent += postage(l);
        }

        void passDay() {
            Arrays.fill(signed, 0);
            if (today < LAST_DAY) {
                today++;
            }
        }

        int howManyLie() {
            int number = 0;
            for (int l = 0; l < letters; l++) {
                if (lies(l)) {
                    number++;
                }
            }
            return number;
        }

        int postageDue() {
            int sum = 0;
            for (int l = 0; l < letters; l++) {
                if (lies(l)) {
                    sum += postage(l);
                }
            }
            return sum;
        }

        int postageFranked() {
            int sum = 0;
            for (int l = 0; l < letters; l++) {
                if (!lies(l) && mark[l] != PAID) {
                    sum += postage(l);
                }
            }
            return sum;
        }

        int postageOfEvery() {
            int sum = 0;
            for (int l = 0; l < letters; l++) {
                sum += postage(l);
            }
            return sum;
        }

        int weightOfEvery() {
            int sum = 0;
            for (int l = 0; l < letters; l++) {
                sum += weight[l];
            }
            return sum;
        }
    }

    /** What may be undone: a ring of rows, each what a house was ahead of a step. */
    private static final class Past {
        static final int DEPTH = 8;
        static final int WIDTH = 2 * MOST_MEMBERS + MOST_LETTERS + 3;

        final int[] rows = new int[DEPTH * WIDTH];
        int first;
        int size;

        void makeEmpty() {
            first = 0;
            size = 0;
        }

        void takeOver(Past other) {
            System.arraycopy(other.rows, 0, rows, 0, DEPTH * WIDTH);
            first = other.first;
            size = other.size;
        }

        void keep(House h) {
            if (size >= DEPTH) {
                first = (first + 1) % DEPTH;
                size = DEPTH - 1;
            }
            int at = (first + size) % DEPTH * WIDTH;
            System.arraycopy(h.placeOf, 0, rows, at, MOST_MEMBERS);
            System.arraycopy(h.signed, 0, rows, at + MOST_MEMBERS, MOST_MEMBERS);
            System.arraycopy(h.mark, 0, rows, at + 2 * MOST_MEMBERS, MOST_LETTERS);
            int rest = at + 2 * MOST_MEMBERS + MOST_LETTERS;
            rows[rest] = h.today;
            rows[rest + 1] = h.saved;
            rows[rest + 2] = h.spent;
            size++;
        }

        boolean giveBack(House h) {
            if (size <= 0) {
                return false;
            }
            size--;
            int at = (first + size) % DEPTH * WIDTH;
            System.arraycopy(rows, at, h.placeOf, 0, MOST_MEMBERS);
            System.arraycopy(rows, at + MOST_MEMBERS, h.signed, 0, MOST_MEMBERS);
            System.arraycopy(rows, at + 2 * MOST_MEMBERS, h.mark, 0, MOST_LETTERS);
            int rest = at + 2 * MOST_MEMBERS + MOST_LETTERS;
            h.today = rows[rest];
            h.saved = rows[rest + 1];
            h.spent = rows[rest + 2];
            return true;
        }
    }

    /** Covers (value: the place) or notes (value: how many covers), as they came. */
    private static final class Slips {
        static final int MOST = 6;

        int size;
        final int[] memberOf = new int[MOST];
        final int[] dayOf = new int[MOST];
        final int[] valueOf = new int[MOST];

        boolean add(int m, int d, int value) {
            if (size >= MOST) {
                return false;
            }
            memberOf[size] = m;
            dayOf[size] = d;
            valueOf[size] = value;
            size++;
            return true;
        }

        void takeOver(Slips other) {
            size = other.size;
            System.arraycopy(other.memberOf, 0, memberOf, 0, MOST);
            System.arraycopy(other.dayOf, 0, dayOf, 0, MOST);
            System.arraycopy(other.valueOf, 0, valueOf, 0, MOST);
        }

        int ownedBy(int m) {
            int set = 0;
            for (int i = 0; i < size; i++) {
                if (memberOf[i] == m) {
                    set |= 1 << i;
                }
            }
            return set;
        }

        int onDay(int m, int d) {
            int set = ownedBy(m);
            for (int i = 0; i < size; i++) {
                if (dayOf[i] != d) {
                    set &= ~(1 << i);
                }
            }
            return set;
        }

        /** The least place in reach of all covers of a set, which may lie above the highest one. */
        int lowest(int set, int reach) {
            int low = 0;
            for (int i = 0; i < size; i++) {
                if ((set >> i & 1) == 1) {
                    low = Math.max(low, valueOf[i] - reach);
                }
            }
            return low;
        }

        int highest(int set, int reach) {
            int high = LAST_PLACE;
            for (int i = 0; i < size; i++) {
                if ((set >> i & 1) == 1) {
                    high = Math.min(high, valueOf[i] + reach);
                }
            }
            return high;
        }

        int placesFor(int set, int reach) {
            return Math.max(0, highest(set, reach) - lowest(set, reach) + 1);
        }

        int nextPlace(int set, int reach) {
            int low = lowest(set, reach);
            int high = highest(set, reach);
            int places = placesFor(set, reach);
            int best = NONE;
            int bestPart = places;
            for (int p = 0; p <= LAST_PLACE && places > 0; p++) {
                int ifTrue = Math.max(0, Math.min(high, p + reach) - Math.max(low, p - reach) + 1);
                int part = Math.max(ifTrue, places - ifTrue);
                if (best == NONE || part < bestPart) {
                    best = p;
                    bestPart = part;
                }
            }
            return best;
        }

        int fewestFalse(int m, Plain kind) {
            int own = ownedBy(m);
            int best = own;
            for (int set = 0; set < own; set++) {
                boolean fewer = (set & ~own) == 0 && Integer.bitCount(set) < Integer.bitCount(best);
                if (fewer && canBeTrue(own & ~set, kind)) {
                    best = set;
                }
            }
            return best;
        }

        boolean canBeTrue(int set, Plain kind) {
            for (int i = 0; i < size; i++) {
                if ((set >> i & 1) == 1) {
                    int same = set & onDay(memberOf[i], dayOf[i]);
                    boolean tooMany = Integer.bitCount(same) > kind.signs(dayOf[i]);
                    if (tooMany || placesFor(same, kind.reach()) == 0) {
                        return false;
                    }
                }
            }
            return true;
        }

        int kindsNoted(int m, Plain[] kinds) {
            int bits = 0;
            for (int k = 0; k < kinds.length; k++) {
                if (agrees(m, kinds[k])) {
                    bits |= 1 << k;
                }
            }
            return bits;
        }

        boolean agrees(int m, Plain kind) {
            for (int i = 0; i < size; i++) {
                if (memberOf[i] == m && kind.signs(dayOf[i]) != valueOf[i]) {
                    return false;
                }
            }
            return true;
        }
    }

    /** Whose names for which letters; its rows are used again by every call. */
    private static final class Names {
        int letters;
        final int[] who = new int[MOST_LETTERS];
        final int[] price = new int[MOST_LETTERS];
        final boolean[] lying = new boolean[MOST_LETTERS];
        final int[] coversOf = new int[MOST_MEMBERS];
        final int[] trial = new int[MOST_LETTERS];
        final int[] best = new int[MOST_LETTERS];
        final int[] dearest = new int[MOST_LETTERS];
        int most;

        /** The most that these members can save; best is the first way to it. */
        int solve(House h, int allowed) {
            letters = h.letters;
            int open = 0;
            for (int l = 0; l < letters; l++) {
                lying[l] = h.lies(l);
                who[l] = h.whoMayFrank(l) & allowed;
                price[l] = who[l] == 0 ? 0 : h.postage(l);
                open += price[l];
            }
            for (int m = 0; m < MOST_MEMBERS; m++) {
                coversOf[m] = m < h.members ? h.coversLeft(m) : 0;
            }
            most = NONE;
            place(0, 0, open);
            return most;
        }

        /** Letters from l on are open and can bring so much at most; a later way must bring more. */
        private void place(int l, int saved, int open) {
            if (saved + open <= most) {
                return;
            }
            if (l >= letters) {
                most = saved;
                System.arraycopy(trial, 0, best, 0, MOST_LETTERS);
                return;
            }
            if (!lying[l]) {
                trial[l] = NOT_LYING;
                place(l + 1, saved, open);
                return;
            }
            for (int m = 0; m < MOST_MEMBERS; m++) {
                if ((who[l] >> m & 1) == 1 && coversOf[m] > 0) {
                    coversOf[m]--;
                    trial[l] = m;
                    place(l + 1, saved + price[l], open - price[l]);
                    coversOf[m]++;
                }
            }
            trial[l] = PAID;
            place(l + 1, saved, open - price[l]);
        }

        /** Where a member should be; most is how much is saved there. */
        int bestPlace(House h, int m) {
            sortByPostage(h);
            int covers = h.coversLeft(m);
            int place = 0;
            most = NONE;
            for (int p = 0; p <= LAST_PLACE; p++) {
                int worth = worthAt(h, m, p, covers);
                if (worth > most) {
                    place = p;
                    most = worth;
                }
            }
            return place;
        }

        private int worthAt(House h, int m, int place, int covers) {
            int left = covers;
            int sum = 0;
            for (int i = 0; i < h.letters && left > 0; i++) {
                int l = dearest[i];
                if (h.lies(l) && h.suits(l, m, place)) {
                    sum += price[l];
                    left--;
                }
            }
            return sum;
        }

        /** The dearest first, so that the covers that are left go to these. */
        private void sortByPostage(House h) {
            for (int l = 0; l < h.letters; l++) {
                price[l] = h.postage(l);
                int at = l;
                while (at > 0 && price[dearest[at - 1]] < price[l]) {
                    dearest[at] = dearest[at - 1];
                    at--;
                }
                dearest[at] = l;
            }
        }

        int pairsThatRest(boolean mayA, boolean mayB, int postage) {
            int bits = 0;
            for (int pair = 0; pair < 4; pair++) {
                boolean a = mayA && (pair & 1) != 0;
                boolean b = mayB && (pair & 2) != 0;
                boolean otherA = mayA && !a;
                boolean otherB = mayB && !b;
                boolean aGains = gain(otherA, b, postage) > gain(a, b, postage);
                boolean bGains = gain(otherB, a, postage) > gain(b, a, postage);
                if (!aGains && !bGains) {
                    bits |= 1 << pair;
                }
            }
            return bits;
        }

        private static int gain(boolean sells, boolean otherSells, int postage) {
            if (!sells) {
                return 0;
            }
            return otherSells ? postage / 2 - 1 : postage;
        }
    }

    /** The text, and how a house is told by it. */
    private static final class Reader {
        static final int MOST = 150;
        static final int END = 0;
        static final int WORD = 1;
        static final int NUMBER = 2;
        static final int STOP = 3;
        static final int WRONG = 4;

        final byte[] text = new byte[MOST];
        int length;
        /** The token that was read last: what it is, its first byte, the byte behind it, its number. */
        int sort;
        int start;
        int end;
        int number;

        boolean append(int c) {
            if (length >= MOST) {
                return false;
            }
            text[length] = (byte) c;
            length++;
            return true;
        }

        /** How many items; NONE at a fault, whose place is the start of the last token then. */
        int readInto(House h) {
            end = 0;
            nextToken();
            if (!isWord("house") || !stops()) {
                return NONE;
            }
            int items = 1;
            for (int i = 0; i < MOST; i++) {
                nextToken();
                if (sort == END) {
                    return items;
                }
                boolean isItem;
                if (isWord("member")) {
                    isItem = readMember(h);
                } else if (isWord("letter")) {
                    isItem = readLetter(h);
                } else {
                    isItem = isWord("frank") && readFrank(h);
                }
                if (!isItem || !stops()) {
                    return NONE;
                }
                items++;
            }
            return items;
        }

        private boolean readMember(House h) {
            if (h.members >= MOST_MEMBERS || !takesNumber(0, KINDS - 1)) {
                return false;
            }
            int kind = number;
            if (!takesNumber(0, LAST_PLACE)) {
                return false;
            }
            h.addMember(kind, number);
            return true;
        }

        private boolean readLetter(House h) {
            if (h.letters >= MOST_LETTERS || !takesNumber(0, LAST_PLACE)) {
                return false;
            }
            int origin = number;
            if (!takesNumber(0, LAST_PLACE)) {
                return false;
            }
            int goal = number;
            if (!takesNumber(1, HEAVIEST)) {
                return false;
            }
            h.addLetter(origin, goal, number);
            return true;
        }

        private boolean readFrank(House h) {
            if (!takesNumber(0, h.letters - 1)) {
                return false;
            }
            int l = number;
            if (!takesNumber(0, h.members - 1) || !h.mayFrank(l, number)) {
                return false;
            }
            h.sign(l, number);
            return true;
        }

        private boolean takesNumber(int least, int greatest) {
            nextToken();
            return sort == NUMBER && within(number, least, greatest);
        }

        private boolean stops() {
            nextToken();
            return sort == STOP;
        }

        private void nextToken() {
            start = end;
            while (start < length && text[start] == ' ') {
                start++;
            }
            end = start;
            if (start >= length) {
                sort = END;
            } else if (isLower(start)) {
                readWord();
            } else if (isFigure(start)) {
                readNumber();
            } else {
                sort = text[start] == ';' ? STOP : WRONG;
                end = start + 1;
            }
        }

        private void readWord() {
            sort = WORD;
            while (end < length && isLower(end)) {
                end++;
            }
        }

        private void readNumber() {
            number = 0;
            while (end < length && isFigure(end)) {
                // Longer runs are wrong whatever they say, so that only two figures count.
                if (end - start < 2) {
                    number = 10 * number + text[end] - '0';
                }
                end++;
            }
            sort = end - start <= 2 ? NUMBER : WRONG;
        }

        private boolean isLower(int at) {
            return text[at] >= 'a' && text[at] <= 'z';
        }

        private boolean isFigure(int at) {
            return text[at] >= '0' && text[at] <= '9';
        }

        private boolean isWord(String word) {
            if (sort != WORD || end - start != word.length()) {
                return false;
            }
            for (int i = 0; i < word.length(); i++) {
                if (text[start + i] != word.charAt(i)) {
                    return false;
                }
            }
            return true;
        }
    }
}
