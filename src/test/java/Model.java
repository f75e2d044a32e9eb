import java.util.ArrayList;
import java.util.HashMap;
import java.util.List;
import java.util.Map;
import java.util.regex.Matcher;
import java.util.regex.Pattern;

/**
 * The document once more, as slowly and plainly as can be: every way is looked at, whole states are
 * kept for what is undone. It shares no code and no shortcut with the class that it is held against.
 */
public final class Model {
    private static final int BAD = -2, NO = -3, FULL = -4;

    static final class Member {
        int kind, place, signed;
        Member(int kind, int place, int signed) { this.kind = kind; this.place = place; this.signed = signed; }
    }

    static final class Letter {
        int from, to, weight, who;
        Letter(int from, int to, int weight, int who) { this.from = from; this.to = to; this.weight = weight; this.who = who; }
        int postage() { return weight * (1 + (Math.max(from, to) - Math.min(from, to)) / 15); }
    }

    static final class State {
        List<Member> members = new ArrayList<>();
        List<Letter> letters = new ArrayList<>();
        int day, saved, spent;
        List<int[]> covers = new ArrayList<>();
        List<int[]> notes = new ArrayList<>();
        List<State> past = new ArrayList<>();

        State copy() {
            State s = new State();
            for (Member m : members) s.members.add(new Member(m.kind, m.place, m.signed));
            for (Letter l : letters) s.letters.add(new Letter(l.from, l.to, l.weight, l.who));
            s.day = day;
            s.saved = saved;
            s.spent = spent;
            s.covers.addAll(covers);
            s.notes.addAll(notes);
            s.past.addAll(past);
            return s;
        }

        boolean may(int l, int m) {
            if (l < 0 || l >= letters.size() || m < 0 || m >= members.size()) return false;
            Letter letter = letters.get(l);
            Member member = members.get(m);
            return letter.who == -1 && member.signed < signs(member.kind, day)
                && Math.abs(member.place - letter.from) <= reach(member.kind) && letter.weight <= bears(member.kind);
        }

        void frank(int l, int m) {
            letters.get(l).who = m;
            members.get(m).signed++;
            saved += letters.get(l).postage();
        }

        void goBy() {
            for (Member m : members) m.signed = 0;
            day = Math.min(999, day + 1);
        }
    }

    private State s = new State();
    private final State[] images = new State[2];
    private String text = "";
    private long above = 0, below = 1;
    private final int[] refused = new int[3];

    static int signs(int kind, int day) {
        switch (kind) {
            case 2: return day % 2 == 0 ? 5 : 10;
            case 4: return day >= 7 ? 0 : day % 2 == 0 ? 5 : 10;
            case 5: return 13;
            default: return 10;
        }
    }

    static int reach(int kind) { return new int[] {20, 20, 20, 40, 0, 10}[kind]; }

    static int bears(int kind) { return new int[] {2, 5, 2, 2, 2, 5}[kind]; }

    private int bad() { refused[0]++; return BAD; }

    private int no() { refused[1]++; return NO; }

    private int full() { refused[2]++; return FULL; }

    private int bad10() { refused[0]++; return -10; }

    private boolean noMember(int m) { return m < 0 || m >= s.members.size(); }

    private boolean noLetter(int l) { return l < 0 || l >= s.letters.size(); }

    private static boolean out(int v, int low, int high) { return v < low || v > high; }

    private void keep() {
        State before = s.copy();
        before.past = new ArrayList<>();
        s.past.add(before);
        if (s.past.size() > 8) s.past.remove(0);
    }

    public int house() {
        int n = s.members.size();
        s = new State();
        return n;
    }

    public int member(int kind, int place) {
        if (out(kind, 0, 5) || out(place, 0, 99)) return bad();
        if (s.members.size() == 5) return full();
        s.past.clear();
        s.members.add(new Member(kind, place, 0));
        return s.members.size() - 1;
    }

    public int letter(int from, int to, int weight) {
        if (out(from, 0, 99) || out(to, 0, 99) || out(weight, 1, 9)) return bad();
        if (s.letters.size() == 6) return full();
        s.past.clear();
        s.letters.add(new Letter(from, to, weight, -1));
        return s.letters.size() - 1;
    }

    public int type(int c) {
        if (out(c, 0, 127)) return bad();
        if (text.length() == 150) return full();
        text += (char) c;
        return text.length();
    }

    public int clear() {
        int n = text.length();
        text = "";
        return n;
    }

    private static final Pattern TOKEN = Pattern.compile(" *([a-z]+|[0-9]+|;|[^ ]|$)", Pattern.DOTALL);

    public int read() {
        List<String> tokens = new ArrayList<>();
        List<Integer> starts = new ArrayList<>();
        Matcher matcher = TOKEN.matcher(text);
        int at = 0;
        while (at <= text.length() && matcher.find(at)) {
            tokens.add(matcher.group(1));
            starts.add(matcher.start(1));
            if (matcher.group(1).isEmpty()) break;
            at = matcher.end(1);
        }
        State t = new State();
        int items = 0;
        int i = 0;
        while (i < tokens.size()) {
            String word = tokens.get(i);
            if (word.isEmpty() && items > 0) {
                s = t;
                return items;
            }
            int numbers = numbersOf(word, items, t);
            if (numbers < 0) return -10 - starts.get(i);
            int[] n = new int[numbers];
            for (int k = 0; k < numbers; k++) {
                String token = tokens.get(i + 1 + k);
                if (!token.matches("[0-9]{1,2}")) return -10 - starts.get(i + 1 + k);
                n[k] = Integer.parseInt(token);
                if (!fits(word, n, k, t)) return -10 - starts.get(i + 1 + k);
            }
            if (!tokens.get(i + 1 + numbers).equals(";")) return -10 - starts.get(i + 1 + numbers);
            if (word.equals("member")) t.members.add(new Member(n[0], n[1], 0));
            if (word.equals("letter")) t.letters.add(new Letter(n[0], n[1], n[2], -1));
            if (word.equals("frank")) t.frank(n[0], n[1]);
            items++;
            i += numbers + 2;
        }
        throw new IllegalStateException("no end: " + text);
    }

    private static int numbersOf(String word, int items, State t) {
        if (items == 0) return word.equals("house") ? 0 : -1;
        if (word.equals("member")) return t.members.size() < 5 ? 2 : -1;
        if (word.equals("letter")) return t.letters.size() < 6 ? 3 : -1;
        return word.equals("frank") ? 2 : -1;
    }

    private static boolean fits(String word, int[] n, int k, State t) {
        if (word.equals("member")) return k == 1 || n[0] <= 5;
        if (word.equals("letter")) return k < 2 || n[2] >= 1 && n[2] <= 9;
        return k == 0 ? n[0] < t.letters.size() : t.may(n[0], n[1]);
    }

    public int frank(int l, int m) {
        if (noLetter(l) || noMember(m)) return bad();
        if (!s.may(l, m)) return no();
        keep();
        s.frank(l, m);
        return s.letters.get(l).postage();
    }

    public int pay(int l) {
        if (noLetter(l)) return bad();
        if (s.letters.get(l).who != -1) return no();
        keep();
        s.letters.get(l).who = 5;
        s.spent += s.letters.get(l).postage();
        return s.letters.get(l).postage();
    }

    public int moves(int m, int place) {
        if (noMember(m) || out(place, 0, 99)) return bad();
        keep();
        int was = s.members.get(m).place;
        s.members.get(m).place = place;
        return was;
    }

    public int day() {
        keep();
        s.goBy();
        return s.day;
    }

    public int undo() {
        if (s.past.isEmpty()) return no();
        State before = s.past.get(s.past.size() - 1).copy();
        before.past = new ArrayList<>(s.past.subList(0, s.past.size() - 1));
        before.covers = s.covers;
        before.notes = s.notes;
        s = before;
        return s.day;
    }

    public int of(int m, int what) {
        if (noMember(m) || out(what, 0, 5)) return bad();
        Member x = s.members.get(m);
        return new int[] {x.kind, x.place, x.signed, signs(x.kind, s.day), reach(x.kind), bears(x.kind)}[what];
    }

    public int about(int l, int what) {
        if (noLetter(l) || out(what, 0, 4)) return bad10();
        Letter x = s.letters.get(l);
        return new int[] {x.from, x.to, x.weight, x.postage(), x.who}[what];
    }

    public int now(int what) {
        if (out(what, 0, 2)) return bad();
        int due = 0;
        for (Letter l : s.letters) due += l.who == -1 ? l.postage() : 0;
        return new int[] {s.saved, s.spent, due}[what];
    }

    public int may(int l) {
        if (noLetter(l)) return bad();
        int bits = 0;
        for (int m = 0; m < 5; m++) bits += s.may(l, m) ? 1 << m : 0;
        return bits;
    }

    /** What a way saves (-1: it is none); a way is a number of figures by 6, the first letter's first. */
    private int savedBy(int[] way) {
        State t = s.copy();
        int before = t.saved;
        for (int l = 0; l < way.length; l++) {
            if (way[l] < 5) {
                if (!t.may(l, way[l])) return -1;
                t.frank(l, way[l]);
            }
        }
        return t.saved - before;
    }

    private int[] bestWay;

    private int most() {
        int n = s.letters.size();
        int[] way = new int[n];
        int best = -1;
        bestWay = null;
        boolean more = true;
        while (more) {
            boolean possible = true;
            for (int l = 0; l < n; l++) {
                boolean lies = s.letters.get(l).who == -1;
                possible &= lies ? way[l] == 5 || s.may(l, way[l]) : way[l] == 0;
            }
            if (possible) {
                int[] real = way.clone();
                for (int l = 0; l < n; l++) if (s.letters.get(l).who != -1) real[l] = 6;
                int saved = savedBy(real);
                if (saved > best) {
                    best = saved;
                    bestWay = real;
                }
            }
            int i = n - 1;
            while (i >= 0 && way[i] == 5) way[i--] = 0;
            more = i >= 0;
            if (more) way[i]++;
        }
        return best;
    }

    public int all(int l) {
        if (l != -1 && noLetter(l)) return bad10();
        int most = most();
        return l == -1 ? most : bestWay[l];
    }

    private boolean canAll(State t, int set, int l) {
        if (l == t.letters.size()) return true;
        if (t.letters.get(l).who != -1) return canAll(t, set, l + 1);
        for (int m = 0; m < 5; m++) {
            if ((set >> m & 1) == 1 && t.may(l, m)) {
                State u = t.copy();
                u.frank(l, m);
                if (canAll(u, set, l + 1)) return true;
            }
        }
        return false;
    }

    public int fewest() {
        for (int size = 0; size <= s.members.size(); size++) {
            for (int set = 0; set < 1 << s.members.size(); set++) {
                if (Integer.bitCount(set) == size && canAll(s, set, 0)) return set;
            }
        }
        return -1;
    }

    public int stand(int m, int what) {
        if (noMember(m) || out(what, 0, 1)) return bad();
        int bestPlace = -1;
        int best = -1;
        for (int p = 0; p < 100; p++) {
            for (int set = 0; set < 1 << s.letters.size(); set++) {
                State t = s.copy();
                t.members.get(m).place = p;
                int sum = 0;
                for (int l = 0; l < s.letters.size() && sum >= 0; l++) {
                    if ((set >> l & 1) == 1) {
                        if (t.may(l, m)) {
                            t.frank(l, m);
                            sum += t.letters.get(l).postage();
                        } else {
                            sum = -1;
                        }
                    }
                }
                if (sum > best) {
                    best = sum;
                    bestPlace = p;
                }
            }
        }
        return what == 0 ? bestPlace : best;
    }

    private void fraction(long a, long b) {
        above = a;
        below = b;
        for (long d = b; d > 1; d--) {
            while (above % d == 0 && below % d == 0) {
                above /= d;
                below /= d;
            }
        }
    }

    public int penny() {
        int postage = 0;
        int weight = 0;
        for (Letter l : s.letters) {
            postage += l.postage();
            weight += l.weight;
        }
        fraction(postage, Math.max(1, weight));
        for (int price = 0; price < 100; price++) if (price * weight >= postage) return price;
        throw new IllegalStateException("no price");
    }

    public int cover(int m, int d, int p) {
        if (noMember(m) || out(d, 0, 99) || out(p, 0, 99)) return bad();
        if (s.covers.size() == 6) return full();
        s.covers.add(new int[] {m, d, p});
        return s.covers.size();
    }

    public int note(int m, int d, int n) {
        if (noMember(m) || out(d, 0, 99) || out(n, 0, 20)) return bad();
        if (s.notes.size() == 6) return full();
        s.notes.add(new int[] {m, d, n});
        return s.notes.size();
    }

    public int forget(int what) {
        if (out(what, 0, 1)) return bad();
        List<int[]> rows = what == 0 ? s.covers : s.notes;
        int n = rows.size();
        rows.clear();
        return n;
    }

    private List<Integer> places(int m, int d, int falseOnes) {
        List<Integer> found = new ArrayList<>();
        for (int p = 0; p < 100; p++) {
            boolean fits = true;
            for (int i = 0; i < s.covers.size(); i++) {
                int[] c = s.covers.get(i);
                boolean counts = c[0] == m && c[1] == d && (falseOnes >> i & 1) == 0;
                fits &= !counts || Math.abs(c[2] - p) <= reach(s.members.get(m).kind);
            }
            if (fits) found.add(p);
        }
        return found;
    }

    public int where(int m, int d, int what) {
        if (noMember(m) || out(d, 0, 99) || out(what, 0, 1)) return bad();
        List<Integer> found = places(m, d, 0);
        return what == 0 ? found.size() : found.isEmpty() ? -1 : found.get(0);
    }

    public int look(int m, int d) {
        if (noMember(m) || out(d, 0, 99)) return bad();
        List<Integer> found = places(m, d, 0);
        if (found.isEmpty()) return -1;
        int best = -1;
        int bestPart = 1000;
        for (int p = 0; p < 100; p++) {
            int near = 0;
            for (int q : found) near += Math.abs(p - q) <= reach(s.members.get(m).kind) ? 1 : 0;
            int part = Math.max(near, found.size() - near);
            if (part < bestPart) {
                bestPart = part;
                best = p;
            }
        }
        return best;
    }

    public int forged(int m) {
        if (noMember(m)) return bad();
        for (int size = 0; size <= 6; size++) {
            for (int set = 0; set < 64; set++) {
                if (Integer.bitCount(set) == size && isForged(m, set)) return set;
            }
        }
        throw new IllegalStateException("none");
    }

    private boolean isForged(int m, int set) {
        Map<Integer, Integer> trueOnes = new HashMap<>();
        for (int i = 0; i < 6; i++) {
            boolean own = i < s.covers.size() && s.covers.get(i)[0] == m;
            boolean isFalse = (set >> i & 1) == 1;
            if (isFalse && !own) return false;
            if (own && !isFalse) trueOnes.merge(s.covers.get(i)[1], 1, Integer::sum);
        }
        for (int d = 0; d < 100; d++) {
            if (trueOnes.getOrDefault(d, 0) > signs(s.members.get(m).kind, d) || places(m, d, set).isEmpty()) return false;
        }
        return true;
    }

    public int is(int m) {
        if (noMember(m)) return bad();
        int bits = 0;
        for (int k = 0; k < 6; k++) {
            boolean so = true;
            for (int[] n : s.notes) so &= n[0] != m || signs(k, n[1]) == n[2];
            bits += so ? 1 << k : 0;
        }
        return bits;
    }

    public int sell(int a, int b, int l) {
        if (noMember(a) || noMember(b) || noLetter(l) || a == b) return bad();
        if (s.letters.get(l).who != -1) return no();
        int worth = s.letters.get(l).postage();
        int[][] get = new int[4][2];
        for (int pair = 0; pair < 4; pair++) {
            boolean sellsA = (pair == 1 || pair == 3) && s.may(l, a);
            boolean sellsB = (pair == 2 || pair == 3) && s.may(l, b);
            if (sellsA && sellsB) {
                get[pair][0] = worth / 2 - 1;
                get[pair][1] = worth / 2 - 1;
            } else if (sellsA) {
                get[pair][0] = worth;
            } else if (sellsB) {
                get[pair][1] = worth;
            }
        }
        int bits = 0;
        for (int pair = 0; pair < 4; pair++) {
            if (get[pair ^ 1][0] <= get[pair][0] && get[pair ^ 2][1] <= get[pair][1]) bits += 1 << pair;
        }
        return bits;
    }

    public int found(int c) {
        if (out(c, 0, 10)) return bad();
        int sum = 0;
        for (Letter l : s.letters) sum += l.who >= 0 && l.who <= 4 ? l.postage() : 0;
        fraction((long) c * sum, 10);
        return 1;
    }

    public int sessions(int seed, int n) {
        if (out(seed, 0, 999999) || out(n, 0, 60)) return bad();
        State t = s.copy();
        java.math.BigInteger x = java.math.BigInteger.valueOf(seed);
        for (int i = 0; i < n; i++) {
            x = step(x);
            int l = x.intValueExact() / 65536 % 6;
            x = step(x);
            int m = x.intValueExact() / 65536 % 5;
            if (t.may(l, m)) t.frank(l, m);
            if (x.intValueExact() / 1048576 % 4 == 0) t.goBy();
        }
        return t.saved - s.saved;
    }

    private static java.math.BigInteger step(java.math.BigInteger x) {
        return x.multiply(java.math.BigInteger.valueOf(1103515245)).add(java.math.BigInteger.valueOf(12345))
            .mod(java.math.BigInteger.valueOf(2147483648L));
    }

    public long part(int what) {
        if (out(what, 0, 1)) return bad();
        return what == 0 ? above : below;
    }

    public int image(int i) {
        if (out(i, 0, 1)) return bad();
        images[i] = s.copy();
        return 1;
    }

    public int from(int i) {
        if (out(i, 0, 1)) return bad();
        if (images[i] == null) return no();
        s = images[i].copy();
        return 1;
    }

    public int status(int what) {
        if (out(what, 0, 2)) {
            bad();
            return -1;
        }
        return refused[what];
    }

    public int count(int what) {
        if (out(what, 0, 7)) return bad();
        return counts()[what];
    }

    private int[] counts() {
        int lie = 0;
        for (Letter l : s.letters) lie += l.who == -1 ? 1 : 0;
        return new int[] {s.members.size(), s.letters.size(), s.day, lie, s.covers.size(), s.notes.size(),
            s.past.size(), text.length()};
    }

    public long digest() {
        List<Long> v = new ArrayList<>();
        for (int n : counts()) v.add((long) n);
        v.add((long) s.saved);
        v.add((long) s.spent);
        for (Member m : s.members) for (int n : new int[] {m.kind, m.place, m.signed}) v.add((long) n);
        for (Letter l : s.letters) for (int n : new int[] {l.from, l.to, l.weight, l.who}) v.add((long) n);
        for (int[] c : s.covers) for (int n : c) v.add((long) n);
        for (int[] c : s.notes) for (int n : c) v.add((long) n);
        v.add(above);
        v.add(below);
        long h = 1289;
        for (long n : v) h = 31 * h + n;
        return h;
    }
}
