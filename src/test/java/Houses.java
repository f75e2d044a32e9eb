/** Houses that the tests begin with, each made by far fewer calls than the 512 that an object is used for. */
final class Houses {
    /** What stands in THE TEXT of a busy house: another house than the one that it is. */
    static final String OTHER = "house;member 3 9;letter 40 0 1;frank 0 0;";
    /** The like of it, 150 bytes long. */
    static final String OTHER_FULL = "house;member 5 80;letter 71 0 4;" + " ".repeat(107) + "frank 0 0 ;";

    private Houses() { }

    static void type(SignedOutside x, String text) {
        for (int i = 0; i < text.length(); i++) {
            if (x.type(text.charAt(i)) < 0) {
                throw new IllegalStateException("can not be typed: " + text);
            }
        }
    }

    static int read(SignedOutside x, String text) {
        x.clear();
        type(x, text);
        return x.read();
    }

    static SignedOutside told(String text) {
        SignedOutside x = new SignedOutside();
        if (read(x, text) <= 0) {
            throw new IllegalStateException("can not be read: " + text);
        }
        return x;
    }

    static SignedOutside of(int[][] members, int[][] letters) {
        SignedOutside x = new SignedOutside();
        for (int[] m : members) {
            x.member(m[0], m[1]);
        }
        for (int[] l : letters) {
            x.letter(l[0], l[1], l[2]);
        }
        return x;
    }

    static void days(SignedOutside x, int n) {
        for (int i = 0; i < n; i++) {
            x.day();
        }
    }

    /** Two members, three letters (franked, lying, paid for), image 0 kept, something of everything. */
    static SignedOutside busy() {
        SignedOutside x = of(new int[][] {{0, 40}, {1, 55}}, new int[][] {{45, 5, 2}, {50, 99, 5}, {20, 35, 1}});
        x.frank(0, 1);
        x.note(1, 4, 10);
        x.image(0);
        x.pay(2);
        x.day();
        x.moves(1, 60);
        x.cover(0, 3, 20);
        x.cover(0, 3, 58);
        x.penny();
        type(x, OTHER);
        return x;
    }

    /** As much of everything as there can be, both images kept, eight to undo. */
    static SignedOutside crowded() {
        SignedOutside x = of(new int[][] {{0, 40}, {1, 55}, {2, 50}, {3, 10}, {5, 60}},
            new int[][] {{45, 5, 2}, {50, 99, 5}, {20, 35, 1}, {50, 50, 2}, {60, 0, 4}, {99, 0, 9}});
        x.image(1);
        for (int i = 0; i < 6; i++) {
            x.cover(i % 5, i % 2, 15 * i);
            x.note(i % 3, i % 2, i % 2 == 0 ? 5 : 10);
        }
        x.moves(3, 20);
        x.frank(0, 0);
        x.day();
        x.image(0);
        x.frank(1, 1);
        x.pay(2);
        x.moves(3, 30);
        x.moves(0, 41);
        x.day();
        x.frank(3, 2);
        x.found(3);
        type(x, OTHER_FULL);
        return x;
    }
}
