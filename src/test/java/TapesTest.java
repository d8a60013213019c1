/** Promises 27 and 34 to 37: judging, tapes. */
public final class TapesTest {
    private static final int NONE = -1, BAD = -2, ABSENT = -5, NOTHING = -11, CAST = -12, PLACE = -13, SIZE = -14;
    private static final long NO = Long.MIN_VALUE;

    public static void main(String[] args) {
        promise27();
        promise34();
        promise35();
        promise36();
        promise37();
        promise37Refusals();
        Expect.finish("TapesTest");
    }

    private static void promise27() {
        NamingElders x = new NamingElders();
        x.child(0, 0, 0b11);
        x.take(0, 1);
        x.take(0, 5);
        Expect.due("27: nothing", x.judge(0, 0), 100);
        Expect.due("27: nothing below", x.judge(0, -1), 100);
        for (int sort = 0; sort < 4; sort++) {
            x.tape(1, sort, 9);
            Expect.due("27: another sort", x.judge(1, 0), CAST);
            Expect.due("27: another sort, below", x.judge(1, -1), CAST);
        }
        x.tape(2, 4, 0);
        Expect.due("27: an empty row", x.judge(2, 0), 100);
        x.tape(2, 4, 9);
        Expect.due("27: otherwise", x.judge(2, 0), 1);
        x.item(2, 3, 1);
        Expect.due("27: the last is otherwise", x.judge(2, 2), 5);
        x.item(2, 7, 9);
        Expect.due("27: all so", x.judge(2, 2), ABSENT);
        x.item(2, 2, 1);
        Expect.due("27: the first is otherwise", x.judge(2, 2), 0);
        Expect.due("27: from 3 on", x.judge(2, 3), 0);
        x.item(2, 2, 0);
        Expect.due("27: ends ahead", x.judge(2, 6), 103);
        x.item(2, 5, 1);
        x.item(2, 7, 0);
        x.item(2, 8, 0);
        Expect.due("27: ends ahead by two", x.judge(2, 4), 105);
        Expect.due("27: the last place", x.judge(2, 8), 101);
        Expect.due("27: at the end", x.judge(2, 9), 100);
        Expect.due("27: far beyond", x.judge(2, Integer.MAX_VALUE), 100);
        Expect.due("27: below", x.judge(2, -1), 100);
        Expect.due("27: far below", x.judge(2, Integer.MIN_VALUE), 100);
        Expect.due("27: tape above", x.judge(6, 0), NONE);
        Expect.due("27: tape below", x.judge(-1, 0), NONE);
    }

    private static void promise34() {
        NamingElders x = new NamingElders();
        for (int sort = 0; sort < 5; sort++) {
            Expect.due("34: tape of sort " + sort, x.tape(sort, sort, 60), 1);
            Expect.due("34: its first", x.read(sort, 0), 0);
            Expect.due("34: its last", x.read(sort, 59), 0);
        }
        x.item(0, 3, 9);
        Expect.due("34: n above", x.tape(0, 0, 61), BAD);
        Expect.due("34: n below", x.tape(0, 0, -1), SIZE);
        Expect.due("34: sort above", x.tape(0, 5, -1), BAD);
        Expect.due("34: sort far above", x.tape(0, 6, 3), BAD);
        Expect.due("34: sort below", x.tape(0, -2, 0), BAD);
        Expect.due("34: tape above", x.tape(6, 5, 0), NONE);
        Expect.due("34: tape below", x.tape(-1, 0, -1), NONE);
        Expect.due("34: stays", x.read(0, 3), 9);
        Expect.due("34: anew", x.tape(0, 0, 4), 1);
        Expect.due("34: all 0", x.read(0, 3), 0);
        Expect.due("34: shorter", x.read(0, 4), NO);
        Expect.due("34: none of it", x.tape(0, 3, 0), 1);
        Expect.due("34: no item", x.item(0, 0, 0), PLACE);
        Expect.due("34: holds nothing", x.tape(0, -1, 61), 1);
        Expect.due("34: holds nothing again", x.tape(0, -1, -1), 1);
        Expect.due("34: nothing there", x.item(0, 0, 0), NOTHING);
    }

    private static void promise35() {
        long v = 0x123456789abcdef0L;
        long[] wants = {(byte) 0xf0, (short) 0xdef0, 0x9abcdef0, v, 1};
        NamingElders x = new NamingElders();
        for (int sort = 0; sort < 5; sort++) {
            x.tape(sort, sort, 2);
            Expect.due("35: item", x.item(sort, 1, v), 1);
            Expect.due("35: of sort " + sort, x.read(sort, 1), wants[sort]);
            Expect.due("35: its neighbour", x.read(sort, 0), 0);
            Expect.due("35: -1", x.item(sort, 0, -1), 1);
            Expect.due("35: -1 of sort " + sort, x.read(sort, 0), sort == 4 ? 1 : -1);
            Expect.due("35: 256", x.item(sort, 0, 256), 1);
            Expect.due("35: 256 of sort " + sort, x.read(sort, 0), sort == 0 ? 0 : sort == 4 ? 1 : 256);
            Expect.due("35: 0", x.item(sort, 0, 0), 1);
            Expect.due("35: 0 of sort " + sort, x.read(sort, 0), 0);
        }
        x.item(4, 0, 1L << 32);
        Expect.due("35: a high bit alone", x.read(4, 0), 1);
        Expect.due("35: place above", x.item(0, 2, 0), PLACE);
        Expect.due("35: place below", x.item(0, -1, 0), PLACE);
        Expect.due("35: nothing", x.item(5, -1, 0), NOTHING);
        Expect.due("35: tape above", x.item(6, 0, 0), NONE);
        Expect.due("35: tape below", x.item(-1, 0, 0), NONE);
    }

    private static void promise36() {
        NamingElders x = new NamingElders();
        x.tape(3, 3, 2);
        x.item(3, 0, Long.MAX_VALUE);
        Expect.due("36: read", x.read(3, 0), Long.MAX_VALUE);
        Expect.due("36: place above", x.read(3, 2), NO);
        Expect.due("36: place below", x.read(3, -1), NO);
        Expect.due("36: nothing", x.read(2, 0), NO);
        Expect.due("36: tape above", x.read(6, 0), NO);
        Expect.due("36: tape below", x.read(-1, 0), NO);
    }

    private static NamingElders twoRows() {
        NamingElders x = new NamingElders();
        x.tape(0, 2, 5);
        x.tape(1, 2, 3);
        for (int i = 0; i < 5; i++) {
            x.item(0, i, i + 1);
        }
        return x;
    }

    private static void rowIs(String call, NamingElders x, int tape, int... want) {
        for (int i = 0; i < want.length; i++) {
            Expect.due("37: " + call + ", item " + i, x.read(tape, i), want[i]);
        }
    }

    private static void promise37() {
        NamingElders x = twoRows();
        Expect.due("37: to another", x.shift(0, 3, 1, 1, 2), 2);
        rowIs("to another", x, 1, 0, 4, 5);
        rowIs("the first stays", x, 0, 1, 2, 3, 4, 5);
        Expect.due("37: onward", x.shift(0, 0, 0, 1, 4), 4);
        rowIs("onward", x, 0, 1, 1, 2, 3, 4);
        Expect.due("37: back", x.shift(0, 2, 0, 0, 3), 3);
        rowIs("back", x, 0, 2, 3, 4, 3, 4);
        Expect.due("37: none of it", x.shift(0, 5, 1, 3, 0), 0);
        rowIs("none of it", x, 1, 0, 4, 5);
        Expect.due("37: all of it", x.shift(1, 0, 0, 2, 3), 3);
        rowIs("all of it", x, 0, 2, 3, 0, 4, 5);
    }

    private static void promise37Refusals() {
        NamingElders x = twoRows();
        x.tape(2, 1, 5);
        int[][] places = {{0, 0, 1, 0, -1}, {0, -1, 1, 0, 1}, {0, 0, 1, -1, 1}, {0, 3, 0, 0, 3}, {0, 0, 1, 1, 3}, {0, 6, 1, 0, 0},
            {0, 0, 1, 4, 0}, {0, 0, 1, 0, 4}, {0, Integer.MAX_VALUE, 1, 0, 1}, {0, 0, 1, 0, Integer.MAX_VALUE},
            {0, 1, 0, 1, Integer.MAX_VALUE}, {0, 0, 0, Integer.MAX_VALUE, Integer.MAX_VALUE}, {0, Integer.MIN_VALUE, 0, 0, 0}};
        for (int[] p : places) {
            Expect.due("37: place", x.shift(p[0], p[1], p[2], p[3], p[4]), PLACE);
        }
        rowIs("refused", x, 0, 1, 2, 3, 4, 5);
        rowIs("refused, the other", x, 1, 0, 0, 0);
        Expect.due("37: unlike sorts", x.shift(0, -1, 2, 0, 1), CAST);
        Expect.due("37: nothing there", x.shift(0, -1, 3, 0, 1), NOTHING);
        Expect.due("37: nothing here", x.shift(3, -1, 0, 0, 1), NOTHING);
        Expect.due("37: nothing at all", x.shift(3, 0, 3, 0, 0), NOTHING);
        Expect.due("37: tape above", x.shift(6, 0, 3, 0, 1), NONE);
        Expect.due("37: tape below", x.shift(-1, 0, 0, 0, 1), NONE);
        Expect.due("37: other above", x.shift(3, 0, 6, 0, 1), NONE);
        Expect.due("37: other below", x.shift(0, 0, -1, 0, 1), NONE);
    }
}
