import java.util.ArrayList;
import java.util.List;

/** "THE HOUSE is told by a TEXT (150 bytes at most) of ITEMS": each case that the words tell, at its bounds. */
public final class TextsTest {
    private static final Check check = new Check();
    private static final Twins twins = new Twins(check);
    private static final int MOST = 150;

    private TextsTest() { }

    public static void main(String[] args) {
        lengths();
        tooEarly();
        everyPrefix();
        aWordThatIsNone();
        houseOnceAndFirst();
        aheadOfHouse();
        endedBySemicolon();
        members();
        letters();
        figures();
        kinds();
        placesToldInItems();
        weights();
        letterThatIsNotThereYet();
        memberWhoMayNot();
        byDayZero();
        blanks();
        everyByte();
        takesThePlaceOfAll();
        readAnew();
        clearing();
        check.end("TextsTest");
    }

    private static Twins.Made withText(String text) {
        return () -> {
            SignedOutside x = Houses.busy();
            x.clear();
            Houses.type(x, text);
            return x;
        };
    }

    /** A fault: all stays, STATUS too, for the answer is none of BAD, NO, FULL. */
    private static void fault(String text, int at) {
        twins.changesNothing("read of '" + text + "'", withText(text), x -> x.read(), -10 - at, Twins.NO_STATUS);
    }

    private static SignedOutside reads(String text, int items) {
        SignedOutside x = withText(text).make();
        check.due("read of '" + text + "'", x.read(), items);
        check.due("the text's length behind it", x.count(7), text.length());
        return x;
    }

    /** "(150 bytes at most)". */
    private static void lengths() {
        for (int length : new int[] {MOST - 1, MOST}) {
            reads("house;" + " ".repeat(length - 6), 1);
            reads(" ".repeat(length - 6) + "house;", 1);
            reads("house" + " ".repeat(length - 6) + ";", 1);
            fault("house" + " ".repeat(length - 5), length);
            fault(" ".repeat(length), length);
            fault("house;" + " ".repeat(length - 7) + ";", length - 1);
            fault(";".repeat(length), 0);
            fault("h".repeat(length), 0);
            fault("house;" + "0".repeat(length - 6), 6);
        }
        SignedOutside x = new SignedOutside();
        Houses.type(x, " ".repeat(MOST - 6) + "house;");
        check.due("a 151st byte", x.type('x'), SignedOutside.FULL);
        check.due("which is not there", x.read(), 1);
        check.due("as many items as fit", Houses.read(x,
            "house;member 0 0;member 0 0;member 0 0;member 0 0;member 0 0;letter 0 0 1;"
            + "letter 0 0 1;letter 0 0 1;letter 0 0 1;letter 0 0 1;frank 0 0; "), 12);
    }

    /** "the TEXT's length, if it ends too early (an empty one, too)". */
    private static void tooEarly() {
        fault("", 0);
        fault(" ", 1);
        fault("house", 5);
        fault("house ", 6);
        reads("house;", 1);
        fault("house;member", 12);
        fault("house;member ", 13);
        fault("house;member 0", 14);
        fault("house;member 0 ", 15);
        fault("house;member 0 0", 16);
        fault("house;member 0 0 ", 17);
        reads("house;member 0 0;", 2);
        fault("house;letter 0 0", 16);
        fault("house;letter 0 0 1", 18);
        reads("house;letter 0 0 1;", 2);
        fault("house;letter 0 0 1;member 0 0;frank", 35);
        fault("house;letter 0 0 1;member 0 0;frank 0", 37);
        fault("house;letter 0 0 1;member 0 0;frank 0 0", 39);
        reads("house;letter 0 0 1;member 0 0;frank 0 0;", 4);
    }

    /** A text cut anywhere: behind an item it can be read, within a word that word is none, else it ends too early. */
    private static void everyPrefix() {
        String[] tokens = {" house", " ;", "member", " 1", " 40", ";", "  letter", " 45", " 05", "  4", " ;", "frank", " 0", " 0", ";  "};
        StringBuilder text = new StringBuilder();
        int items = 0;
        fault("", 0);
        for (String token : tokens) {
            int start = text.length() + token.length() - token.stripLeading().length();
            boolean word = Character.isLetter(token.trim().charAt(0));
            boolean ahead = items > 0 && text.toString().trim().endsWith(";");
            for (int i = 0; i < token.length(); i++) {
                text.append(token.charAt(i));
                items += token.charAt(i) == ';' ? 1 : 0;
                boolean blanksAlone = text.length() <= start;
                boolean whole = i == token.length() - 1;
                if (token.trim().equals(";") ? !blanksAlone : blanksAlone && ahead) {
                    reads(text.toString(), items);
                } else {
                    fault(text.toString(), word && !blanksAlone && !whole ? start : text.length());
                }
            }
        }
        reads(text.toString(), 4);
    }

    /** "a word that is none": one letter less, one more, another one, great ones. */
    private static void aWordThatIsNone() {
        for (String word : new String[] {"hous", "houses", "ouse", "mouse", "housf", "hhouse", "h", "z", "item"}) {
            fault(word + ";", 0);
        }
        String[] items = {"member 0 0;", "letter 0 0 1;", "frank 0 0;"};
        for (String item : items) {
            String start = "house;" + (item.startsWith("f") ? "letter 0 0 1;member 0 0;" : "");
            int at = start.length();
            int blank = item.indexOf(' ');
            reads(start + item, item.startsWith("f") ? 4 : 2);
            fault(start + item.substring(1), at);
            fault(start + item.substring(0, blank - 1) + item.substring(blank), at);
            fault(start + item.substring(0, blank) + "s" + item.substring(blank), at);
            fault(start + "a" + item, at);
            fault(start + Character.toUpperCase(item.charAt(0)) + item.substring(1), at);
            fault(start + item.substring(0, blank - 1) + "z" + item.substring(blank), at);
        }
        fault("house;lord 1 2;", 6);
        fault("house;member house 0;", 13);
        fault("house;member 0 house;", 15);
        fault("house;member member 0 0;", 13);
        fault("house;letter 0 0 one;", 17);
        fault("hoUse;", 0);
        fault("House;", 0);
        fault("HOUSE;", 0);
    }

    /** "house (once, first of all)", "house again". */
    private static void houseOnceAndFirst() {
        reads("house;", 1);
        fault("house;house;", 6);
        fault("house; house;", 7);
        fault("house;house", 6);
        fault("house;member 0 0;house;", 17);
        fault("house;letter 0 0 1;house;", 19);
        fault("house house;", 6);
        fault("house 1;", 6);
    }

    /** "anything ahead of it". */
    private static void aheadOfHouse() {
        fault("member 0 0;house;", 0);
        fault("  member 0 0;", 2);
        fault("letter 0 0 1;house;", 0);
        fault("frank 0 0;house;", 0);
        fault(";house;", 0);
        fault(" ;house;", 1);
        fault("0house;", 0);
        fault("12 house;", 0);
        fault("-house;", 0);
        fault(" \thouse;", 1);
    }

    /** "ITEMS, each ended by ;". */
    private static void endedBySemicolon() {
        fault("house member 0 0;", 6);
        fault("house;member 0 0 member 0 0;", 17);
        fault("house;member 0 0 0;", 17);
        fault("house;member 0;", 14);
        fault("house;member;", 12);
        fault("house;letter 0 0;", 16);
        fault("house;letter 0;", 14);
        fault("house;letter;", 12);
        fault("house;letter 0 0 1 1;", 19);
        fault("house;letter 0 0 1;member 0 0;frank;", 35);
        fault("house;letter 0 0 1;member 0 0;frank 0;", 37);
        fault("house;letter 0 0 1;member 0 0;frank 0 0 0;", 40);
        fault("house;;", 6);
        fault("house;member 0 0;;", 17);
        reads("house;member 0 0; ", 2);
    }

    /** "a 6th member ... at its word". */
    private static void members() {
        String four = "house;member 0 0;member 1 1;member 2 2;member 3 3;";
        String five = four + "member 4 99;";
        check.due("four", reads(four, 5).count(0), 4);
        check.due("five", reads(five, 6).count(0), 5);
        check.due("the fifth", reads(five, 6).of(4, 1), 99);
        fault(five + "member 5 5;", 62);
        fault(five + "  member", 64);
        fault(five + "member 9 999", 62);
        fault(five + "members", 62);
        check.due("a letter behind five", reads(five + "letter 0 0 1;", 7).count(1), 1);
    }

    /** "a 7th letter at its word". */
    private static void letters() {
        String five = "house;letter 0 0 1;letter 0 0 1;letter 0 0 1;letter 0 0 1;letter 0 0 1;";
        String six = five + "letter 99 98 9;";
        check.due("five", reads(five, 6).count(1), 5);
        check.due("six", reads(six, 7).count(1), 6);
        check.due("the sixth", reads(six, 7).about(5, 1), 98);
        fault(six + "letter 0 0 1;", 86);
        fault(six + " letter", 87);
        fault(six + "letter 0 0 0;", 86);
        check.due("a member behind six", reads(six + "member 5 0;", 8).count(0), 1);
    }

    /** "figures (1 or 2 are one number)", "a run of three figures or more (at its first one)". */
    private static void figures() {
        check.due("one", reads("house;member 5 7;", 2).of(0, 1), 7);
        check.due("two", reads("house;member 05 07;", 2).of(0, 1), 7);
        check.due("two", reads("house;member 05 07;", 2).of(0, 0), 5);
        check.due("two", reads("house;member 00 99;", 2).of(0, 1), 99);
        check.due("two", reads("house;letter 00 01 09;", 2).about(0, 2), 9);
        fault("house;member 000 0;", 13);
        fault("house;member 0005 0;", 13);
        fault("house;member 0 000;", 15);
        fault("house;member 0 007;", 15);
        fault("house;member 0 100;", 15);
        fault("house;member 0 0000000000000007;", 15);
        fault("house;member 0 4294967296;", 15);
        fault("house;letter 000 0 1;", 13);
        fault("house;letter 0 000 1;", 15);
        fault("house;letter 0 0 001;", 17);
        String start = "house;letter 0 0 1;member 0 0;";
        reads(start + "frank 00 00;", 4);
        fault(start + "frank 000 0;", 36);
        fault(start + "frank 0 000;", 38);
        fault("house;123", 6);
        fault("house 123;", 6);
        fault("house;member 0 0 123", 17);
        fault("123", 0);
    }

    /** "a number not as told": KINDS. */
    private static void kinds() {
        for (int kind = 0; kind <= 5; kind++) {
            check.due("kind", reads("house;member " + kind + " 0;", 2).of(0, 0), kind);
        }
        fault("house;member 6 0;", 13);
        fault("house;member 7 0;", 13);
        fault("house;member 06 0;", 13);
        fault("house;member 10 0;", 13);
        fault("house;member 99 0;", 13);
        fault("house;member -1 0;", 13);
    }

    /** Two figures tell each PLACE there is, and none beyond. */
    private static void placesToldInItems() {
        for (String place : new String[] {"0", "1", "98", "99"}) {
            int number = Integer.parseInt(place);
            check.due("a member's place", reads("house;member 0 " + place + ";", 2).of(0, 1), number);
            check.due("from", reads("house;letter " + place + " 50 1;", 2).about(0, 0), number);
            check.due("to", reads("house;letter 50 " + place + " 1;", 2).about(0, 1), number);
        }
        fault("house;member 0 -1;", 15);
        fault("house;letter 100 0 1;", 13);
        fault("house;letter 0 100 1;", 15);
    }

    /** "a number not as told": WEIGHT. */
    private static void weights() {
        for (int weight = 1; weight <= 9; weight++) {
            check.due("weight", reads("house;letter 1 2 " + weight + ";", 2).about(0, 2), weight);
        }
        fault("house;letter 1 2 0;", 17);
        fault("house;letter 1 2 00;", 17);
        fault("house;letter 1 2 10;", 17);
        fault("house;letter 1 2 11;", 17);
        fault("house;letter 1 2 99;", 17);
    }

    /** "also a LETTER that is not there yet". */
    private static void letterThatIsNotThereYet() {
        fault("house;frank 0 0;", 12);
        fault("house;member 0 0;frank 0 0;", 23);
        fault("house;member 0 0;frank 0 0;letter 0 0 1;", 23);
        String one = "house;member 0 0;letter 0 0 1;";
        reads(one + "frank 0 0;", 4);
        fault(one + "frank 1 0;", 36);
        fault(one + "frank 1 9;", 36);
        fault(one + "frank 99 0;", 36);
        String two = one + "letter 0 0 1;";
        reads(two + "frank 1 0;", 5);
        fault(two + "frank 2 0;", 49);
        fault(two + "frank 2 0;letter 0 0 1;", 49);
        reads(two + "letter 0 0 1;frank 2 0;", 6);
        String six = two + "letter 0 0 1;letter 0 0 1;letter 0 0 1;letter 0 0 1;";
        reads(six + "frank 5 0;", 9);
        fault(six + "frank 6 0;", 101);
    }

    /** "a MEMBER who may not frank it": not there, too far, too heavy, no covers left, franked already. */
    private static void memberWhoMayNot() {
        fault("house;letter 0 0 1;frank 0 0;", 27);
        fault("house;letter 0 0 1;frank 0 0;member 0 0;", 27);
        String one = "house;letter 0 0 1;member 0 0;";
        reads(one + "frank 0 0;", 4);
        fault(one + "frank 0 1;", 38);
        fault(one + "frank 0 5;", 38);
        fault(one + "frank 0 99;", 38);
        reads(one + "member 0 0;frank 0 1;", 5);
        reads("house;letter 20 0 1;member 0 0;frank 0 0;", 4);
        fault("house;letter 21 0 1;member 0 0;frank 0 0;", 39);
        reads("house;letter 0 0 2;member 0 0;frank 0 0;", 4);
        fault("house;letter 0 0 3;member 0 0;frank 0 0;", 38);
        reads("house;letter 0 0 5;member 1 0;frank 0 0;", 4);
        fault("house;letter 0 0 6;member 1 0;frank 0 0;", 38);
        fault(one + "frank 0 0;frank 0 0;", 48);
        fault(one + "member 0 0;frank 0 0;frank 0 1;", 59);
        String six = "house;member2 0;letter0 0 1;letter0 0 1;letter0 0 1;letter0 0 1;letter0 0 1;letter0 0 1;";
        String five = "frank0 0;frank1 0;frank2 0;frank3 0;frank4 0;";
        check.due("five by a sick one", reads(six + five, 13).of(0, 2), 5);
        fault(six + five + "frank5 0;", 140);
        check.due("six by a plain one", reads(six.replace('2', '0') + five + "frank5 0;", 14).of(0, 2), 6);
    }

    /** "(as told, by DAY 0)": whatever the day is while it is read. */
    private static void byDayZero() {
        for (int day : new int[] {0, 1, 6, 7, 8}) {
            SignedOutside x = new SignedOutside();
            Houses.days(x, day);
            check.due("a dead one, read on day " + day, Houses.read(x, "house;member 4 0;letter 0 15 2;frank 0 0;"), 4);
            check.due("the day", x.count(2), 0);
            check.due("signed", x.of(0, 2), 1);
            check.due("saved", x.now(0), 4);
            check.due("who", x.about(0, 4), 0);
        }
    }

    /** "blanks (32) between": any number of them, none where tokens part by themselves. */
    private static void blanks() {
        SignedOutside x = reads("   house   ;   member   1   2   ;   letter   3   4   5   ;   ", 3);
        check.due("kind", x.of(0, 0), 1);
        check.due("place", x.of(0, 1), 2);
        check.due("from", x.about(0, 0), 3);
        check.due("weight", x.about(0, 2), 5);
        reads("house;member1 2;letter3 4 5;", 3);
        fault("hou se;", 0);
        fault("house;mem ber 0 0;", 6);
        fault("house;member 0 1 2;", 17);
        fault("house;member 12;", 13);
        fault("house;letter 1 23;", 17);
        fault("house;member 0\t0;", 14);
        fault("house;\n", 6);
        fault("house\r;", 5);
        fault("house;member 0 0x;", 16);
        fault("house;member 0x 0;", 14);
        fault("house;member 0,0;", 14);
    }

    /** "a byte that begins none, too": every byte there is, at each kind of place. */
    private static void everyByte() {
        for (int b = 0; b < 128; b++) {
            char c = (char) b;
            boolean letter = c >= 'a' && c <= 'z';
            boolean figure = c >= '0' && c <= '9';
            oneByte(c + "house;", c == ' ' ? 1 : -10);
            oneByte("house" + c + ";", c == ' ' ? 1 : letter ? -10 : c == ';' ? -16 : -15);
            oneByte("house;" + c, c == ' ' ? 1 : -16);
            oneByte("house;" + c + "member 0 0;", c == ' ' ? 2 : -16);
            oneByte("house;member " + c + " 40;", figure && c <= '5' ? 2 : c == ' ' ? -25 : -23);
            oneByte("house;member 0 " + c + ";", figure ? 2 : c == ' ' ? -26 : -25);
            oneByte("house;member 0 4" + c, c == ';' ? 2 : figure || c == ' ' ? -27 : -26);
            oneByte("house;letter 0 0 " + c + ";", figure && c != '0' ? 2 : c == ' ' ? -28 : -27);
            oneByte("house;letter 0 0 1 " + c, c == ';' ? 2 : c == ' ' ? -30 : -29);
            oneByte("house;letter 0 0 1;member 0 0;frank " + c + " 0;", c == '0' ? 4 : c == ' ' ? -49 : -46);
            oneByte("house;letter 0 0 1;member 0 0;frank 0 " + c + ";", c == '0' ? 4 : c == ' ' ? -49 : -48);
        }
    }

    private static void oneByte(String text, int want) {
        SignedOutside x = withText(text).make();
        List<Integer> codes = new ArrayList<>();
        text.chars().forEach(codes::add);
        check.due("read of " + codes, x.read(), want);
    }

    /** "takes the place of all but IMAGES, THE TEXT, THE FRACTION, STATUS (COVERS, NOTES none; nothing to undo)". */
    private static void takesThePlaceOfAll() {
        for (Twins.Made made : new Twins.Made[] {Houses::busy, Houses::crowded, SignedOutside::new}) {
            SignedOutside x = made.make();
            x.member(-1, -1);
            x.clear();
            Houses.type(x, "house;");
            long above = x.part(0);
            long below = x.part(1);
            int bad = x.status(0);
            int no = x.status(1);
            int full = x.status(2);
            check.due("read", x.read(), 1);
            for (int what = 0; what < 7; what++) {
                check.due("count(" + what + ")", x.count(what), 0);
            }
            check.due("the text", x.count(7), 6);
            check.due("saved", x.now(0), 0);
            check.due("spent", x.now(1), 0);
            check.due("above", x.part(0), above);
            check.due("below", x.part(1), below);
            check.due("status(0)", x.status(0), bad);
            check.due("status(1)", x.status(1), no);
            check.due("status(2)", x.status(2), full);
            check.due("read again", x.read(), 1);
        }
        SignedOutside kept = Houses.crowded();
        SignedOutside twin = Houses.crowded();
        kept.read();
        for (int i = 0; i < 2; i++) {
            check.due("the image stays", kept.from(i), twin.from(i));
            check.due("as it was", kept.digest(), twin.digest());
            check.due("with what may be undone", kept.count(6), twin.count(6));
        }
    }

    /** Each time THE HOUSE is read from its beginning: behind a fault, behind another one, behind sessions. */
    private static void readAnew() {
        String text = "house;member 2 22;letter 22 0 1;frank 0 0;";
        SignedOutside due = Houses.told(text);
        SignedOutside again = Houses.told(text);
        check.due("read again", again.read(), 4);
        twins.alike("read again", again, Houses.told(text));
        SignedOutside behindFault = new SignedOutside();
        check.due("a fault at its end", Houses.read(behindFault, "house;member 0 0;member 0 0;letter 0 0 1;frank 0 0;x"), -10 - 51);
        check.due("behind a fault", Houses.read(behindFault, text), 4);
        check.due("behind a fault", behindFault.digest(), due.digest());
        SignedOutside behindOther = Houses.told("house;member 0 0;member 0 0;member 0 0;member 0 0;member 0 0;letter 0 0 1;frank 0 0;");
        check.due("behind another", Houses.read(behindOther, text), 4);
        check.due("behind another", behindOther.digest(), due.digest());
        SignedOutside behindSessions = Houses.crowded();
        behindSessions.house();
        behindSessions.from(0);
        behindSessions.sessions(5, 60);
        check.due("behind sessions", Houses.read(behindSessions, text), 4);
        check.due("members behind sessions", behindSessions.count(0), 1);
        check.due("letters behind sessions", behindSessions.count(1), 1);
        check.due("saved behind sessions", behindSessions.now(0), due.now(0));
        check.due("the day behind sessions", behindSessions.count(2), 0);
        check.due("steps behind sessions", behindSessions.count(6), 0);
    }

    /** "THE TEXT is empty: how many it had." */
    private static void clearing() {
        SignedOutside x = Houses.crowded();
        check.due("the fullest", x.clear(), MOST);
        check.due("an empty one", x.clear(), 0);
        check.due("read of it", x.read(), -10);
        check.due("the first byte", x.type('h'), 1);
        check.due("one byte", x.clear(), 1);
        check.due("read of what is typed anew", Houses.read(x, "house;"), 1);
    }
}
