/** Promises 28 to 33: the image, acts, kinds, counts. */
public final class ImageTest {
    private static final int NONE = -1, BAD = -2, STATE = -3, ABSENT = -5, NOTHING = -11, CAST = -12;

    public static void main(String[] args) {
        promise28();
        promise29();
        promise29Elsewhere();
        promise30();
        promise30Wraps();
        promise31();
        promise32();
        promise33();
        Expect.finish("ImageTest");
    }

    private static void promise28() {
        NamingElders x = new NamingElders();
        Expect.due("28: of nobody", x.image(), 0);
        x.child(0, 0, 0);
        x.child(0, 0, 0);
        Expect.due("28: undone", x.undo(), 0);
        Expect.due("28: nobody", x.count(0), 0);
        x.child(0, 4, 0);
        Expect.due("28: of one", x.image(), 1);
        x.child(0, 0, 0);
        Expect.due("28: the newer image", x.undo(), 1);
        Expect.due("28: its child", x.of(0, 1), 4);
    }

    private static void promise29() {
        NamingElders x = new NamingElders();
        Expect.due("29: none", x.undo(), STATE);
        x.child(6, 5, 0b1001);
        x.row(0, 2, 6);
        x.basket(0, 1);
        x.set(0, 0, 9);
        x.set(2, 1, 1);
        x.bar(0b10);
        Expect.due("29: valley", Expect.valley(x, "learn 7;suit 20 x=3"), 0);
        x.take(0, 3);
        x.pass(5);
        x.hear(0, 0, 1);
        x.plan(2, 3);
        x.book(4, 4);
        Expect.due("29: image", x.image(), 1);
        x.child(5, 9, 0b111);
        x.row(0, 2, 0);
        x.basket(0, -1);
        x.know(0, 0);
        x.set(0, 0, 0);
        x.set(2, 1, 0);
        x.bar(0b100);
        x.forget(3);
        x.pass(60);
        x.hear(-1, 0, 0);
        x.plan(-1, 0);
        x.book(-1, 0);
        Expect.due("29: another valley", Expect.valley(x, "learn 9"), 1);
        for (int i = 0; i < 2; i++) {
            Expect.due("29: undo", x.undo(), 1);
            int[] child = {6, 5, 0b1001, 5, 1};
            for (int what = 0; what < child.length; what++) {
                Expect.due("29: of(0, " + what + ")", x.of(0, what), child[what]);
            }
            Expect.due("29: its row", x.row(0, 2, 0), 6);
            Expect.due("29: LOOK", x.elder(0, 0), 9);
            Expect.due("29: HIDDEN", x.elder(2, 3), 1);
            Expect.due("29: NAME", x.elder(3, 1), 3);
            Expect.due("29: BY", x.elder(3, 2), 0);
            Expect.due("29: SUNDAY", x.told(0), 5);
            Expect.due("29: which valley holds", x.told(1), 7);
            Expect.due("29: BARRED", x.told(2), 0b10);
            Expect.due("29: HEARD", x.count(2), 1);
            Expect.due("29: of what is heard", x.of(0, 5), 0);
            Expect.due("29: the plan", x.ends(0), 0);
            Expect.due("29: rows of it", x.count(3), 1);
            Expect.due("29: the book", x.looked(), 0);
            Expect.due("29: rows of the book", x.count(4), 1);
            Expect.due("29: the valleys stay", x.count(1), 2);
            x.set(0, 0, 1);
            x.take(0, 0);
            x.book(4, -1);
            x.hear(0, 0, 1);
            x.plan(0, 0);
        }
        Expect.due("29: the next valley's number", Expect.valley(x, "learn 3"), 2);
        Expect.due("29: it holds", x.told(1), 3);
    }

    private static void promise29Elsewhere() {
        NamingElders x = new NamingElders();
        x.image();
        x.child(6, 1, 0);
        x.row(0, 1, 9);
        x.basket(0, 2);
        x.pass(3);
        x.act(0, 1, 0);
        x.feed('s');
        x.tape(0, 2, 3);
        x.item(0, 1, 77);
        x.undo();
        Expect.due("29: the trace stays", x.count(6), 5);
        Expect.due("29: the text stays", x.count(5), 1);
        Expect.due("29: tapes stay", x.read(0, 1), 77);
        x.child(6, 2, 5);
        Expect.due("29: a new child's row", x.row(0, 1, 0), 0);
        Expect.due("29: its age", x.of(0, 3), 0);
        Expect.due("29: its basket", x.of(0, 4), ABSENT);
        Expect.due("29: its words", x.of(0, 2), 5);
    }

    /** A child of each kind with its number 1 and v 3, and what it does with 5. */
    private static void promise30() {
        int[][] wants = {{6, 3, 6}, {6, 5, 10}, {16, 13, 26}, {6, 3, 5}, {-6, -10 ^ 6, (-10 ^ 6) * 2}, {16, 13, 20}, {}};
        // TOLD: looks 6 ^ 3; points (looks(5) - 3) + 3; tells twice that, and points(1): ((2 ^ 3) - 3) + 3.
        wants[6] = new int[] {6 ^ 3, (6 ^ 3) - 3 + 3, ((6 ^ 3) - 3 + 3) * 2 + (2 ^ 3) - 3 + 3};
        for (int kind = 0; kind < 7; kind++) {
            NamingElders x = new NamingElders();
            x.child(0, 9, 0);
            x.child(kind, 3, 0);
            for (int act = 0; act < 3; act++) {
                Expect.due("30: kind " + kind + " act " + act, x.act(1, act, 5), wants[kind][act]);
            }
            Expect.due("30: no act above", x.act(1, 3, 5), 0);
            Expect.due("30: no trace then", x.count(6), 0);
            x.act(1, 2, 5);
            Expect.due("30: no act below", x.act(1, -1, 5), 0);
            Expect.due("30: no trace of it", x.trace(0), NONE);
            x.act(1, 2, 5);
            Expect.due("30: no child above", x.act(2, 0, 5), 0);
            Expect.due("30: no trace again", x.count(6), 0);
            Expect.due("30: no child below", x.act(-1, 0, 5), 0);
        }
    }

    private static void promise30Wraps() {
        NamingElders x = new NamingElders();
        x.child(0, 1, 0);
        x.child(2, 0, 0);
        x.child(4, 0, 0);
        Expect.due("30: wraps below", x.act(0, 1, Integer.MIN_VALUE), Integer.MAX_VALUE);
        Expect.due("30: wraps twice", x.act(0, 2, 1 << 30 | 1), Integer.MIN_VALUE);
        Expect.due("30: wraps thrice", x.act(1, 0, 0x60000000), 0x20000001);
        Expect.due("30: the least of all", x.act(2, 0, 0x7ffffffe), Integer.MIN_VALUE);
    }

    private static void promise31() {
        int[][][] wants = {
            {{10}, {11, 10}, {12, 11, 10}},
            {{10}, {20, 11, 10}, {12, 20, 11, 10}},
            {{30, 10}, {11, 30, 10}, {12, 11, 30, 10}},
            {{10}, {11, 10}, {40, 12, 11, 10, 11, 10}},
            {{50, 10}, {51, 20, 11, 50, 10}, {12, 51, 20, 11, 50, 10}},
            {{30, 10}, {11, 30, 10}, {60, 12, 11, 30, 10}},
            {{71, 10}, {70, 11, 71, 10, 10}, {40, 12, 70, 11, 71, 10, 10, 70, 11, 71, 10, 10}},
        };
        for (int kind = 0; kind < 7; kind++) {
            NamingElders x = new NamingElders();
            x.child(kind, 3, 0);
            for (int act = 0; act < 3; act++) {
                x.act(0, act, 5);
                int[] want = wants[kind][act];
                for (int i = 0; i < want.length; i++) {
                    Expect.due("31: kind " + kind + " act " + act + " trace " + i, x.trace(i), want[i]);
                }
                Expect.due("31: no more", x.trace(want.length), NONE);
                Expect.due("31: how many", x.count(6), want.length);
                Expect.due("31: none below", x.trace(-1), NONE);
                Expect.due("31: none above", x.trace(20), NONE);
            }
        }
    }

    private static void promise32() {
        int[] above = {-1, 0, 0, 0, 1, 2, 3};
        for (int kind = 0; kind < 7; kind++) {
            NamingElders x = new NamingElders();
            Expect.due("32: nothing", x.taken(0, kind), NOTHING);
            x.child(kind, 0, 0);
            for (int k = 0; k < 7; k++) {
                boolean is = k == kind || k == 0 || k == above[kind];
                Expect.due("32: " + kind + " for " + k, x.taken(0, k), is ? kind : CAST);
            }
            Expect.due("32: k below", x.taken(0, -1), BAD);
            Expect.due("32: k above", x.taken(0, 7), BAD);
            Expect.due("32: bad first", x.taken(1, 7), BAD);
            Expect.due("32: nobody", x.taken(1, 0), NOTHING);
            Expect.due("32: nobody below", x.taken(-1, 0), NOTHING);
        }
    }

    private static void promise33() {
        NamingElders x = new NamingElders();
        x.child(3, 0, 0);
        x.child(0, 0, 0);
        Expect.due("33: valley", Expect.valley(x, "learn 1"), 0);
        for (int i = 0; i < 3; i++) {
            x.hear(0, 0, 0);
        }
        for (int i = 0; i < 4; i++) {
            x.plan(0, 0);
        }
        for (int i = 0; i < 5; i++) {
            x.book(0, 0);
        }
        for (int i = 0; i < 7; i++) {
            x.feed('x');
        }
        x.act(0, 2, 0);
        int[] want = {2, 1, 3, 4, 5, 7, 6};
        for (int what = 0; what < want.length; what++) {
            Expect.due("33: count(" + what + ")", x.count(what), want[what]);
        }
        Expect.due("33: below", x.count(-1), BAD);
        Expect.due("33: above", x.count(7), BAD);
    }
}
