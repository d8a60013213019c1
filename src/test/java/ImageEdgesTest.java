/** The boundary cases of acts, the image, what is judged, and tapes. */
public final class ImageEdgesTest {
    private static final int STATE = -3, NONE = -1, ABSENT = -5, NOTHING = -11, CAST = -12, PLACE = -13;
    private static final long NO = Long.MIN_VALUE;

    public static void main(String[] args) {
        actsByNumberAndV();
        actsWrap();
        theLatestTrace();
        aTakenChildBringsNoTrace();
        imageOfAnEmptyOne();
        imageOfRowsTold();
        imageOfBooks();
        imageOfValleys();
        imageOfChildren();
        theLatestImage();
        notInTheImage();
        judgedFromEachPlace();
        judgedByEachElder();
        itemsOfEachSort();
        rowsOfNoneAndSixty();
        aTapeBecomesAnother();
        shiftedAsTheyWere();
        Expect.finish("ImageEdgesTest");
    }

    /** "ACTS of a CHILD with x ..; i its number": each kind, by each number and v, with some x. */
    private static void actsByNumberAndV() {
        int[] xs = {0, 1, -1, 6, 1000};
        for (int kind = 0; kind < 7; kind++) {
            NamingElders o = new NamingElders();
            for (int i = 0; i < 6; i++) {
                o.child(kind, 9 - 2 * (i % 5), 0);
            }
            for (int i = 0; i < 6; i++) {
                int v = 9 - 2 * (i % 5);
                for (int x : xs) {
                    Expect.due("kind " + kind + " looks", o.act(i, 0, x), looks(kind, x, i, v));
                    Expect.due("kind " + kind + " points", o.act(i, 1, x), points(kind, x, i, v));
                    Expect.due("kind " + kind + " tells", o.act(i, 2, x), tells(kind, x, i, v));
                }
            }
        }
    }

    private static int looks(int kind, int x, int i, int v) {
        if (kind == 2 || kind == 5) return 3 * x + i;
        if (kind == 4) return -(x + i);
        return kind == 6 ? (x + i) ^ v : x + i;
    }

    private static int points(int kind, int x, int i, int v) {
        if (kind == 1) return (x + i - v) ^ 6;
        if (kind == 4) return (-(x + 1 + i) - v) ^ 6;
        if (kind == 6) return ((x + i) ^ v) - v + 2 + i;
        return looks(kind, x, i, v) - v;
    }

    private static int tells(int kind, int x, int i, int v) {
        if (kind == 5) return points(kind, x - i, i, v) * 2;
        int told = points(kind, x, i, v) * 2;
        return kind == 3 || kind == 6 ? told + points(kind, 1, i, v) : told;
    }

    /** "with x (wrapping)" */
    private static void actsWrap() {
        for (int kind = 0; kind < 7; kind++) {
            NamingElders o = new NamingElders();
            o.child(0, 0, 0);
            o.child(kind, 9, 0);
            int[] xs = {Integer.MAX_VALUE, Integer.MAX_VALUE - 1, Integer.MIN_VALUE, Integer.MIN_VALUE + 1, 1 << 30, -(1 << 30), 0x55555556};
            for (int x : xs) {
                Expect.due("kind " + kind + " looks at " + x, o.act(1, 0, x), looks(kind, x, 1, 9));
                Expect.due("kind " + kind + " points at " + x, o.act(1, 1, x), points(kind, x, 1, 9));
                Expect.due("kind " + kind + " tells " + x, o.act(1, 2, x), tells(kind, x, 1, 9));
            }
        }
        NamingElders o = new NamingElders();
        o.child(0, 0, 0);
        o.child(0, 9, 0);
        Expect.due("looks beyond the greatest", o.act(1, 0, Integer.MAX_VALUE), Integer.MIN_VALUE);
        Expect.due("points beyond the least", o.act(1, 1, Integer.MIN_VALUE), Integer.MAX_VALUE - 7);
        Expect.due("tells twice", o.act(0, 2, Integer.MIN_VALUE), 0);
    }

    /** "the numbers of the bodies that ran in the latest act(), as they began" */
    private static void theLatestTrace() {
        NamingElders o = new NamingElders();
        o.child(6, 0, 0);
        o.child(0, 0, 0);
        Expect.due("none yet", o.count(6), 0);
        Expect.due("none at 0 yet", o.trace(0), NONE);
        o.act(0, 2, 0);
        Expect.due("of a long one", o.count(6), 12);
        Expect.due("its last", o.trace(11), 10);
        Expect.due("behind its last", o.trace(12), NONE);
        o.act(1, 0, 0);
        Expect.due("of a short one", o.count(6), 1);
        Expect.due("its only one", o.trace(0), 10);
        Expect.due("nothing of the long one", o.trace(1), NONE);
        Expect.due("nothing of its last", o.trace(11), NONE);
        o.act(2, 0, 0);
        Expect.due("of no child", o.count(6), 0);
        Expect.due("not even at 0", o.trace(0), NONE);
        o.act(0, 1, 0);
        Expect.due("of another", o.count(6), 5);
        o.act(0, 3, 0);
        Expect.due("of no act", o.count(6), 0);
        int[] numbers = {-1, 0, 11, 19, 20, 21, Integer.MIN_VALUE, Integer.MAX_VALUE};
        for (int i : numbers) {
            Expect.due("trace(" + i + ") of none", o.trace(i), NONE);
        }
    }

    /** "the latest act()": no other call runs bodies. */
    private static void aTakenChildBringsNoTrace() {
        NamingElders o = new NamingElders();
        o.child(2, 0, 1);
        o.act(0, 1, 0);
        o.take(0, 0);
        o.basket(0, 1);
        o.pass(2);
        o.taken(0, 2);
        o.image();
        o.undo();
        o.child(1, 0, 0);
        int[] want = {11, 30, 10, NONE};
        for (int i = 0; i < want.length; i++) {
            Expect.due("trace " + i, o.trace(i), want[i]);
        }
        Expect.due("how many", o.count(6), 3);
    }

    /** "STATE: there is none."; an image of a new object. */
    private static void imageOfAnEmptyOne() {
        NamingElders x = new NamingElders();
        Expect.due("none", x.undo(), STATE);
        Expect.due("image", x.image(), 0);
        for (int kind = 0; kind < 6; kind++) {
            x.child(kind, 1, 2);
            x.basket(kind, kind);
            x.set(kind, 0, kind);
            x.set(kind, 1, kind % 2);
            x.hear(kind, 0, 0);
            x.plan(2, kind);
            x.book(kind, -1);
        }
        x.bar(4);
        x.pass(60);
        Expect.due("undo", x.undo(), 0);
        for (int what = 0; what < 6; what++) {
            Expect.due("count(" + what + ")", x.count(what), 0);
            Expect.due("told(" + what + ")", x.told(what), 0);
            Expect.due("LOOK", x.elder(what, 0), 5);
            Expect.due("NAME", x.elder(what, 1), ABSENT);
            Expect.due("BY", x.elder(what, 2), ABSENT);
            Expect.due("HIDDEN", x.elder(what, 3), 0);
            Expect.due("no child", x.of(what, 0), NONE);
        }
    }

    /** "THE IMAGE: .. HEARD, the PLAN": each number of each row. */
    private static void imageOfRowsTold() {
        NamingElders x = new NamingElders();
        x.child(0, 0, 0b10);
        x.child(0, 0, 0b100);
        x.hear(0, 2, 3);
        x.plan(1, 14);
        x.image();
        int[][] others = {{1, 2, 3}, {0, 3, 3}, {0, 2, 4}, {0, 2, -1}};
        for (int[] other : others) {
            x.set(3, 1, 1);
            x.hear(-1, 0, 0);
            x.hear(other[0], other[1], other[2]);
            x.hear(1, 1, 1);
            x.undo();
            Expect.due("one is heard", x.count(2), 1);
            Expect.due("of child 0", x.of(0, 5), 256);
            Expect.due("of word 3", x.of(0, 6), 8);
            Expect.due("not of child 1", x.of(1, 5), 4096);
            x.set(2, 1, 1);
            Expect.due("of elder 2", x.of(0, 5), 0);
            x.set(2, 1, 0);
        }
        int[][] plans = {{0, 14}, {2, 4}, {3, 4}, {1, 4}, {1, 13}};
        for (int[] plan : plans) {
            x.plan(-1, 0);
            x.plan(plan[0], plan[1]);
            x.plan(0, 0);
            x.undo();
            Expect.due("one is planned", x.count(3), 1);
            Expect.due("by child 1", x.ends(1), 0b100);
            x.set(4, 1, 1);
            Expect.due("for elder 4", x.ends(1), 0);
            x.set(4, 1, 0);
        }
    }

    /** "THE IMAGE: .. the BOOK": each number of each row. */
    private static void imageOfBooks() {
        NamingElders x = new NamingElders();
        x.child(0, 0, 0b10);
        x.book(2, 1);
        x.take(0, 2);
        x.image();
        int[][] books = {{3, 1}, {2, 2}, {2, -1}, {2, 0}};
        for (int[] book : books) {
            Expect.due("empty", x.book(-1, 0), 0);
            x.book(book[0], book[1]);
            Expect.due("otherwise", x.looked(), 0);
            x.undo();
            Expect.due("as told in the image", x.looked(), ABSENT);
            Expect.due("one row", x.count(4), 1);
            x.forget(2);
            Expect.due("of elder 2", x.looked(), 0);
            x.undo();
        }
    }

    /** "THE IMAGE: .. which VALLEY holds": also if none did; the valleys stay. */
    private static void imageOfValleys() {
        NamingElders x = new NamingElders();
        x.child(0, 0, 0);
        x.image();
        Expect.due("valley", Expect.valley(x, "suit 7 p=0;learn 3"), 0);
        x.undo();
        Expect.due("none holds", x.fits(0, 0, 0), 5);
        Expect.due("no learn", x.told(1), 0);
        Expect.due("there is one", x.count(1), 1);
        Expect.due("valley", Expect.valley(x, "suit 8 p=0"), 1);
        x.image();
        Expect.due("valley", Expect.valley(x, "suit 9 p=0;learn 4"), 2);
        Expect.due("the third holds", x.fits(0, 0, 0), 14);
        x.undo();
        Expect.due("the second holds", x.fits(0, 0, 0), 13);
        Expect.due("without learn", x.told(1), 0);
        Expect.due("there are three", x.count(1), 3);
        for (int i = 3; i < 6; i++) {
            Expect.due("valley", Expect.valley(x, "learn " + i), i);
            x.undo();
            Expect.due("the second holds again", x.fits(0, 0, 0), 13);
        }
        Expect.due("there are six", x.valley(), -4);
    }

    /** "CHILDREN with all that is theirs": whoever came behind the image is gone, and so is all that was theirs. */
    private static void imageOfChildren() {
        NamingElders x = new NamingElders();
        x.child(0, 3, 0b111);
        x.image();
        for (int c = 1; c < 6; c++) {
            x.child(6, 9, 4095);
            x.basket(c, c);
            for (int part = 0; part < 4; part++) {
                x.row(c, part, 9);
            }
        }
        x.pass(7);
        Expect.due("undo", x.undo(), 1);
        Expect.due("the second is gone", x.of(1, 0), NONE);
        for (int c = 1; c < 6; c++) {
            Expect.due("another comes", x.child(6, 1, 0b1), c);
            Expect.due("of no AGE", x.of(c, 3), 0);
            Expect.due("without a basket", x.of(c, 4), ABSENT);
            Expect.due("that knows its own", x.of(c, 2), 0b1);
            for (int part = 0; part < 4; part++) {
                Expect.due("its row is all 0", x.fits(c, part, 0), -5);
            }
        }
        Expect.due("nobody is named", x.told(4), 0);
        x.know(0, 0);
        x.basket(0, 3);
        x.pass(1);
        Expect.due("undo again", x.undo(), 1);
        Expect.due("it knows", x.of(0, 2), 0b111);
        Expect.due("its basket", x.of(0, 4), ABSENT);
        Expect.due("its AGE", x.of(0, 3), 0);
    }

    /** "THE IMAGE is taken": the latest counts, and it stays when it is gone back to. */
    private static void theLatestImage() {
        NamingElders x = new NamingElders();
        for (int i = 0; i < 3; i++) {
            x.set(i, 0, i + 6);
            x.image();
            x.set(i, 0, 1);
            x.undo();
            x.set(i, 0, 2);
            x.undo();
            Expect.due("the latest", x.elder(i, 0), i + 6);
            Expect.due("with what was earlier", x.elder(0, 0), 6);
        }
        x.child(0, 0, 0);
        Expect.due("undo", x.undo(), 0);
        Expect.due("undo again", x.undo(), 0);
    }

    /** What THE IMAGE does not name stays as it is: THE TEXT, the valleys, THE TRACE, TAPES. */
    private static void notInTheImage() {
        NamingElders x = new NamingElders();
        x.child(0, 0, 0);
        x.tape(0, 0, 1);
        x.tape(1, 2, 1);
        x.item(1, 0, 5);
        x.feed('l');
        x.act(0, 1, 0);
        x.image();
        x.tape(0, -1, 0);
        x.item(1, 0, 6);
        x.tape(2, 4, 3);
        x.feed('e');
        x.act(0, 2, 0);
        x.undo();
        Expect.due("a tape holds nothing still", x.item(0, 0, 1), NOTHING);
        Expect.due("an item stays", x.read(1, 0), 6);
        Expect.due("a tape stays", x.read(2, 2), 0);
        Expect.due("the text stays", x.count(5), 2);
        Expect.due("the trace stays", x.count(6), 3);
        Expect.due("its first", x.trace(0), 12);
    }

    /** "100 and how many were looked at, if the row ends ahead of that (or the place is below 0, or the TAPE holds nothing)" */
    private static void judgedFromEachPlace() {
        NamingElders x = new NamingElders();
        Expect.due("holds nothing", x.judge(3, 0), 100);
        Expect.due("holds nothing, anywhere", x.judge(3, 60), 100);
        Expect.due("holds nothing, below", x.judge(3, Integer.MIN_VALUE), 100);
        for (int n = 0; n <= 60; n += n < 8 ? 1 : 13) {
            x.tape(3, 4, n);
            for (int i = -1; i <= n + 1; i++) {
                int looked = i < 0 || i > n ? 0 : Math.min(6, n - i);
                Expect.due("row of " + n + " from " + i, x.judge(3, i), looked == 6 ? ABSENT : 100 + looked);
            }
        }
        int[] far = {-2, 61, 100, Integer.MIN_VALUE, Integer.MAX_VALUE, Integer.MAX_VALUE - 5};
        for (int i : far) {
            Expect.due("from " + i, x.judge(3, i), 100);
        }
        x.tape(3, -1, 0);
        Expect.due("holds nothing again", x.judge(3, 0), 100);
        for (int sort = 0; sort < 4; sort++) {
            x.tape(3, sort, 0);
            Expect.due("an empty row of another sort", x.judge(3, 0), CAST);
        }
    }

    /** "ELDER by ELDER (all six) .. the first that is otherwise; -5: none": the row may end behind it. */
    private static void judgedByEachElder() {
        NamingElders x = new NamingElders();
        x.child(0, 0, 0b111111);
        x.take(0, 0);
        x.take(0, 3);
        x.tape(0, 4, 6);
        x.item(0, 0, 1);
        x.item(0, 3, -1);
        Expect.due("all six so", x.judge(0, 0), ABSENT);
        for (int e = 0; e < 6; e++) {
            long told = x.read(0, e);
            x.item(0, e, 1 - told);
            Expect.due("elder " + e + " is otherwise", x.judge(0, 0), e);
            x.item(0, 5, 1);
            Expect.due("the first of two", x.judge(0, 0), e);
            x.item(0, e, told);
            x.item(0, 5, 0);
        }
        Expect.due("all so again", x.judge(0, 0), ABSENT);
        x.tape(1, 4, 3);
        Expect.due("otherwise ahead of the end", x.judge(1, 0), 0);
        x.item(1, 0, 1);
        Expect.due("the end ahead of what is otherwise", x.judge(1, 0), 103);
        x.item(1, 2, 1);
        Expect.due("the last item is otherwise", x.judge(1, 0), 2);
        x.set(0, 1, 1);
        Expect.due("hidden does not matter", x.judge(0, 0), ABSENT);
        x.forget(0);
        Expect.due("not named any more", x.judge(0, 0), 0);
        // Word 0 is a NAME as any other.
        x.set(0, 1, 0);
        Expect.due("word 0", x.take(0, 0), 0);
        Expect.due("named by word 0", x.judge(0, 0), ABSENT);
    }

    /** "its lowest bits, as many as an item has; booleans: whether v is not 0" */
    private static void itemsOfEachSort() {
        long[] values = {0, 1, -1, 2, 127, 128, -128, -129, 255, 256, 32767, 32768, -32768, -32769, 65535, 65536, Integer.MAX_VALUE,
            Integer.MAX_VALUE + 1L, Integer.MIN_VALUE, Integer.MIN_VALUE - 1L, 1L << 32, Long.MAX_VALUE, Long.MIN_VALUE, Long.MIN_VALUE + 1};
        for (int sort = 0; sort < 5; sort++) {
            NamingElders x = new NamingElders();
            x.tape(5, sort, 60);
            for (long v : values) {
                long want = sort == 0 ? (byte) v : sort == 1 ? (short) v : sort == 2 ? (int) v : sort == 3 ? v : v == 0 ? 0 : 1;
                for (int i = 0; i < 60; i += 59) {
                    Expect.due("item " + v + " of sort " + sort, x.item(5, i, v), 1);
                    Expect.due("read of " + v + " of sort " + sort, x.read(5, i), want);
                }
            }
            Expect.due("others stay", x.read(5, 1) + x.read(5, 58), 0);
            Expect.due("below", x.item(5, -1, 0), PLACE);
            Expect.due("above", x.item(5, 60, 0), PLACE);
            Expect.due("read below", x.read(5, -1), NO);
            Expect.due("read above", x.read(5, 60), NO);
        }
    }

    /** "a row of n (0 .. 60) of a sort" */
    private static void rowsOfNoneAndSixty() {
        for (int tape = 0; tape < 6; tape++) {
            for (int sort = 0; sort < 5; sort++) {
                NamingElders x = new NamingElders();
                Expect.due("of none", x.tape(tape, sort, 0), 1);
                Expect.due("no first", x.item(tape, 0, 1), PLACE);
                Expect.due("nothing to read", x.read(tape, 0), NO);
                Expect.due("none is shifted", x.shift(tape, 0, tape, 0, 0), 0);
                Expect.due("not one", x.shift(tape, 0, tape, 0, 1), PLACE);
                Expect.due("of sixty", x.tape(tape, sort, 60), 1);
                Expect.due("its last", x.item(tape, 59, 1), 1);
                Expect.due("it is read", x.read(tape, 59), 1);
                Expect.due("no sixty-first", x.item(tape, 60, 1), PLACE);
                Expect.due("all are shifted", x.shift(tape, 0, tape, 0, 60), 60);
                Expect.due("not sixty-one", x.shift(tape, 0, tape, 0, 61), PLACE);
                Expect.due("the others are as they were", x.item((tape + 1) % 6, 0, 0), NOTHING);
            }
        }
    }

    /** "A TAPE becomes a row .., all 0, or holds nothing (sort -1: n does not matter)" */
    private static void aTapeBecomesAnother() {
        NamingElders x = new NamingElders();
        for (int sort = 0; sort < 5; sort++) {
            Expect.due("another row", x.tape(1, sort, 7), 1);
            for (int i = 0; i < 7; i++) {
                Expect.due("all 0", x.read(1, i), 0);
                x.item(1, i, 1);
            }
            Expect.due("as long as it is told", x.read(1, 7), NO);
            Expect.due("shorter", x.tape(1, sort, 3), 1);
            Expect.due("longer", x.tape(1, sort, 8), 1);
            for (int i = 0; i < 8; i++) {
                Expect.due("all 0 again", x.read(1, i), 0);
                x.item(1, i, 1);
            }
        }
        int[] whatever = {0, -1, 61, Integer.MIN_VALUE, Integer.MAX_VALUE};
        for (int n : whatever) {
            x.tape(1, 3, 2);
            Expect.due("holds nothing", x.tape(1, -1, n), 1);
            Expect.due("nothing to read", x.read(1, 0), NO);
            Expect.due("nothing there", x.item(1, 0, 0), NOTHING);
            Expect.due("holds nothing again", x.tape(1, -1, n), 1);
        }
    }

    /** "as they all were before": within one row, too, either way. */
    private static void shiftedAsTheyWere() {
        for (int i = 0; i <= 5; i++) {
            for (int j = 0; j <= 5; j++) {
                for (int n = 0; n <= 6; n++) {
                    NamingElders x = new NamingElders();
                    x.tape(4, 1, 5);
                    long[] want = new long[5];
                    for (int k = 0; k < 5; k++) {
                        x.item(4, k, k + 1);
                        want[k] = k + 1;
                    }
                    boolean fine = i + n <= 5 && j + n <= 5;
                    if (fine) System.arraycopy(new long[] {1, 2, 3, 4, 5}, i, want, j, n);
                    Expect.due("shift(" + i + ", " + j + ", " + n + ")", x.shift(4, i, 4, j, n), fine ? n : PLACE);
                    for (int k = 0; k < 5; k++) {
                        Expect.due("item " + k + " behind shift(" + i + ", " + j + ", " + n + ")", x.read(4, k), want[k]);
                    }
                }
            }
        }
    }
}
