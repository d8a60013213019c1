import java.util.List;

/** Each refusal of each call, which comes first of several, and that nothing is changed by it. */
public final class RefusalsTest {
    private static final int NONE = -1, BAD = -2, STATE = -3, FULL = -4;
    private static final int NOTHING = -11, CAST = -12, PLACE = -13, SIZE = -14;
    private static final long NO = Long.MIN_VALUE;
    /** Below and above what there is, near by and far away. The rich object has three children. */
    private static final int[] NO_CHILD = {-1, 3, 5, 6, Integer.MIN_VALUE, Integer.MAX_VALUE};
    private static final int[] NO_ELDER = {-1, 6, Integer.MIN_VALUE, Integer.MAX_VALUE};
    private static final int[] NO_WORD = {-1, 12, Integer.MIN_VALUE, Integer.MAX_VALUE};
    private static final int[] NO_WORDS = {-1, 4096, Integer.MIN_VALUE, Integer.MAX_VALUE};
    private static final int[] NO_DIGIT = {-1, 10, Integer.MIN_VALUE, Integer.MAX_VALUE};
    private static final int[] NO_BIT = {-1, 2, Integer.MIN_VALUE, Integer.MAX_VALUE};
    private static final int[] NO_SUNDAYS = {-1, 61, Integer.MIN_VALUE, Integer.MAX_VALUE};
    private static final int[] NO_TAPE = {-1, 6, Integer.MIN_VALUE, Integer.MAX_VALUE};

    private static List<Long> rich, full;

    public static void main(String[] args) {
        rich = Watched.all(Watched.rich());
        full = Watched.all(Watched.full());
        noSuchChild();
        noSuchElder();
        noSuchWord();
        noSuchWhat();
        badNumbers();
        noneFirst();
        states();
        fullOnes();
        emptied();
        tapes();
        tapesFirst();
        Expect.finish("RefusalsTest");
    }

    private static void refused(String call, Watched.Call made, long due) {
        NamingElders x = Watched.rich();
        Expect.due(call, made.on(x), due);
        Expect.due(call + " changes nothing", Watched.all(x).equals(rich) ? 1 : 0, 1);
    }

    private static void refusedFull(String call, Watched.Call made, long due) {
        NamingElders x = Watched.full();
        Expect.due(call + ", full", made.on(x), due);
        Expect.due(call + ", full, changes nothing", Watched.all(x).equals(full) ? 1 : 0, 1);
    }

    private static void noSuchChild() {
        for (int c : NO_CHILD) {
            refused("3: of(" + c + ")", x -> x.of(c, 0), NONE);
            refused("5: fits of " + c, x -> x.fits(c, 0, 0), -10001);
            refused("6: know of " + c, x -> x.know(c, 0), NONE);
            refused("7: basket of " + c, x -> x.basket(c, 0), NONE);
            refused("7: no basket of " + c, x -> x.basket(c, -1), NONE);
            refused("8: take " + c, x -> x.take(c, 3), NONE);
            refused("12: row of " + c, x -> x.row(c, 0, 0), NONE);
            refused("18: teach " + c, x -> x.teach(c, 3, 0), NONE);
            if (c != -1) refused("19: hear " + c, x -> x.hear(c, 0, 0), NONE);
            refused("20: can of " + c, x -> x.can(c, 0), NONE);
            refused("21: odds of " + c, x -> x.odds(c, 0, 0), NO);
            refused("32: taken " + c, x -> x.taken(c, 0), NOTHING);
            refused("15: told of " + c, x -> x.told(10 + c), NONE);
            refused("17: on of " + c, x -> x.on(0, 20 + c), NONE);
        }
        for (int told : new int[] {-1, -10, 30, 35, 60, 6, 9, 16, 29, Integer.MIN_VALUE, Integer.MAX_VALUE}) {
            refused("23: a plan of " + told, x -> x.plan(1, told), NONE);
        }
    }

    private static void noSuchElder() {
        for (int e : NO_ELDER) {
            refused("4: elder " + e, x -> x.elder(e, 0), NONE);
            refused("5: fits to " + e, x -> x.fits(0, 0, e), -10001);
            if (e != -1) refused("7: basket to " + e, x -> x.basket(0, e), NONE);
            refused("8: take to " + e, x -> x.take(0, e), NONE);
            refused("9: LOOK of " + e, x -> x.set(e, 0, 0), NONE);
            refused("9: HIDDEN of " + e, x -> x.set(e, 1, 0), NONE);
            refused("10: forget " + e, x -> x.forget(e), NONE);
            refused("18: teach for " + e, x -> x.teach(0, e, 0), NONE);
            refused("19: hear to " + e, x -> x.hear(0, e, 0), NONE);
            refused("21: odds to " + e, x -> x.odds(0, e, 0), NO);
            refused("23: a plan to forget " + e, x -> x.plan(2, e), NONE);
            refused("23: a plan to hide " + e, x -> x.plan(3, e), NONE);
            if (e != -1) refused("25: book of " + e, x -> x.book(e, 0), NONE);
        }
        refused("7: basket to -2", x -> x.basket(0, -2), NONE);
        refused("25: book of -2", x -> x.book(-2, 0), NONE);
    }

    private static void noSuchWord() {
        for (int word : NO_WORD) {
            refused("5: fits of word " + word, x -> x.fits(0, word, 0), -10001);
            refused("18: teach word " + word, x -> x.teach(0, 3, word), NONE);
            if (word != -1) refused("19: hear word " + word, x -> x.hear(0, 0, word), NONE);
            if (word != -1) refused("25: book word " + word, x -> x.book(0, word), NONE);
        }
        refused("19: hear word -2", x -> x.hear(0, 0, -2), NONE);
        refused("25: book word -2", x -> x.book(0, -2), NONE);
    }

    private static void noSuchWhat() {
        for (int what : new int[] {-1, 7, 8, 9, 16, 17, Integer.MIN_VALUE, Integer.MAX_VALUE}) {
            refused("3: of, what " + what, x -> x.of(0, what), NONE);
        }
        for (int what : new int[] {-1, 5, 10, Integer.MIN_VALUE, Integer.MAX_VALUE}) {
            refused("4: elder, what " + what, x -> x.elder(0, what), NONE);
        }
        for (int what : new int[] {-1, 6, 7, 8, 9, 13, 15, 16, Integer.MIN_VALUE, Integer.MAX_VALUE}) {
            refused("15: told, what " + what, x -> x.told(what), NONE);
        }
        for (int what : new int[] {-1, 1, 9, 16, 19, 23, 25, 26, Integer.MIN_VALUE, Integer.MAX_VALUE}) {
            refused("17: on, what " + what, x -> x.on(0, what), NONE);
        }
        for (int what : NO_BIT) {
            refused("9: set, what " + what, x -> x.set(0, what, 0), NONE);
            refused("20: can, what " + what, x -> x.can(0, what), NONE);
            refused("21: odds, part " + what, x -> x.odds(0, 0, what), NO);
            refused("22: mean, part " + what, x -> x.mean(0, what), NO);
            refused("24: ends, what " + what, x -> x.ends(what), NONE);
        }
        for (int part : new int[] {-1, 4, Integer.MIN_VALUE, Integer.MAX_VALUE}) {
            refused("12: row, part " + part, x -> x.row(1, part, 0), NONE);
            if (part != -1) refused("23: plan, what " + part, x -> x.plan(part, 0), NONE);
        }
        refused("23: plan, what -2", x -> x.plan(-2, 0), NONE);
        for (int i : new int[] {-1, 12, 13, 19, 20, 21, Integer.MIN_VALUE, Integer.MAX_VALUE}) {
            refused("31: trace(" + i + ")", x -> x.trace(i), NONE);
        }
        for (int what : new int[] {-1, 7, Integer.MIN_VALUE, Integer.MAX_VALUE}) {
            refused("33: count(" + what + ")", x -> x.count(what), BAD);
            refused("32: taken for " + what, x -> x.taken(0, what), BAD);
            refused("2: child of kind " + what, x -> x.child(what, 0, 0), NONE);
        }
    }

    private static void badNumbers() {
        for (int n : NO_DIGIT) {
            refused("2: child with v " + n, x -> x.child(0, n, 0), BAD);
            refused("9: LOOK " + n, x -> x.set(0, 0, n), BAD);
            refused("12: row of n " + n, x -> x.row(1, 0, n), BAD);
        }
        for (int words : NO_WORDS) {
            refused("2: child that knows " + words, x -> x.child(0, 0, words), BAD);
            refused("6: know " + words, x -> x.know(0, words), BAD);
            refused("11: bar " + words, x -> x.bar(words), BAD);
        }
        for (int n : NO_BIT) {
            refused("9: HIDDEN " + n, x -> x.set(0, 1, n), BAD);
        }
        for (int sign : new int[] {-1, 128, 255, 256, Integer.MIN_VALUE, Integer.MAX_VALUE}) {
            refused("13: feed " + sign, x -> x.feed(sign), BAD);
        }
        for (int n : NO_SUNDAYS) {
            refused("16: pass " + n, x -> x.pass(n), BAD);
            refused("17: on " + n, x -> x.on(n, 0), BAD);
            refused("17: on " + n + " of an elder", x -> x.on(n, 15), BAD);
            refused("17: on " + n + " of a child", x -> x.on(n, 22), BAD);
            refused("22: mean of " + n, x -> x.mean(n, 0), NO);
        }
    }

    /** NONE comes ahead of BAD, BAD ahead of STATE and FULL: so the calls' words name them. */
    private static void noneFirst() {
        refused("2: NONE, BAD v", x -> x.child(7, 10, 0), NONE);
        refused("2: NONE, BAD knows", x -> x.child(-1, 0, 4096), NONE);
        refused("6: NONE, BAD", x -> x.know(3, 4096), NONE);
        refused("9: NONE elder, BAD", x -> x.set(6, 0, 10), NONE);
        refused("9: NONE what, BAD", x -> x.set(0, 2, 10), NONE);
        refused("12: NONE child, BAD", x -> x.row(3, 0, 10), NONE);
        refused("12: NONE part, BAD", x -> x.row(1, 4, 10), NONE);
        refused("12: NONE part, STATE", x -> x.row(0, 4, 0), NONE);
        refused("12: BAD, STATE", x -> x.row(0, 0, 10), BAD);
        refused("17: NONE, BAD", x -> x.on(61, 16), NONE);
        refused("17: NONE, BAD below", x -> x.on(-1, 23), NONE);
        refused("32: BAD, NOTHING", x -> x.taken(3, 7), BAD);
        refused("32: BAD, CAST", x -> x.taken(0, -1), BAD);
        refused("32: NOTHING, whatever k", x -> x.taken(3, 5), NOTHING);
        refused("32: CAST", x -> x.taken(0, 4), CAST);
        refusedFull("2: NONE", x -> x.child(7, 0, 0), NONE);
        refusedFull("2: BAD v", x -> x.child(0, 10, 0), BAD);
        refusedFull("2: BAD knows", x -> x.child(0, 0, -1), BAD);
        refusedFull("19: NONE child", x -> x.hear(6, 0, 0), NONE);
        refusedFull("19: NONE elder", x -> x.hear(0, 6, 0), NONE);
        refusedFull("19: NONE word", x -> x.hear(0, 0, 12), NONE);
        refusedFull("23: NONE what", x -> x.plan(4, 0), NONE);
        refusedFull("23: NONE child", x -> x.plan(1, 60), NONE);
        refusedFull("23: NONE elder", x -> x.plan(1, 6), NONE);
        refusedFull("23: NONE elder to hide", x -> x.plan(3, 6), NONE);
        refusedFull("25: NONE elder", x -> x.book(6, 0), NONE);
        refusedFull("25: NONE word", x -> x.book(0, 12), NONE);
    }

    private static void states() {
        refused("12: STATE of a BABY", x -> x.row(0, 0, 1), STATE);
        refusedFull("12: STATE of a SHY one", x -> x.row(2, 3, 9), STATE);
        refusedFull("29: STATE", x -> x.undo(), STATE);
        refusedFull("29: STATE, behind an image that was asked in vain", x -> Math.min(x.undo(), x.undo()), STATE);
    }

    private static void fullOnes() {
        refusedFull("2: FULL", x -> x.child(0, 0, 0), FULL);
        refusedFull("14: FULL", x -> x.valley(), FULL);
        refusedFull("19: FULL", x -> x.hear(5, 5, 11), FULL);
        refusedFull("19: FULL for nothing", x -> x.hear(0, 0, -1), FULL);
        refusedFull("23: FULL", x -> x.plan(0, 0), FULL);
        refusedFull("23: FULL, taken", x -> x.plan(1, 55), FULL);
        refusedFull("25: FULL", x -> x.book(5, 11), FULL);
        refusedFull("25: FULL for none", x -> x.book(0, -1), FULL);
    }

    /** Even full ones are emptied by -1, whatever the other numbers are. */
    private static void emptied() {
        for (int other : new int[] {-2, 0, 99, Integer.MIN_VALUE, Integer.MAX_VALUE}) {
            NamingElders x = Watched.full();
            Expect.due("19: hear none", x.hear(-1, other, other), 0);
            Expect.due("19: none is heard", x.count(2), 0);
            Expect.due("23: no plan", x.plan(-1, other), 0);
            Expect.due("23: no row of it", x.count(3), 0);
            Expect.due("25: no book", x.book(-1, other), 0);
            Expect.due("25: no row of it", x.count(4), 0);
            Expect.due("19: none again", x.hear(-1, other, other), 0);
            Expect.due("23: none again", x.plan(-1, other), 0);
            Expect.due("25: none again", x.book(-1, other), 0);
            Expect.due("19: all sets", x.of(0, 5), 4096);
            Expect.due("24: as it is", x.ends(0), 0);
            Expect.due("26: as it is", x.looked(), -5);
        }
    }

    /** Tape 2 of the rich object has four ints, tape 3 five longs, tape 4 six booleans; tape 5 holds nothing. */
    private static void tapes() {
        for (int t : NO_TAPE) {
            refused("27: judge " + t, x -> x.judge(t, 0), NONE);
            refused("34: tape " + t, x -> x.tape(t, 0, 1), NONE);
            refused("34: tape " + t + " of nothing", x -> x.tape(t, -1, 1), NONE);
            refused("35: item of " + t, x -> x.item(t, 0, 1), NONE);
            refused("36: read " + t, x -> x.read(t, 0), NO);
            refused("37: shift from " + t, x -> x.shift(t, 0, 2, 0, 1), NONE);
            refused("37: shift to " + t, x -> x.shift(2, 0, t, 0, 1), NONE);
        }
        for (int i : new int[] {-1, 4, 5, 60, Integer.MIN_VALUE, Integer.MAX_VALUE}) {
            refused("35: item " + i, x -> x.item(2, i, 1), PLACE);
            refused("36: read at " + i, x -> x.read(2, i), NO);
            refused("37: shift of " + i, x -> x.shift(2, 1, 2, 0, i), PLACE);
            refused("37: shift from " + i, x -> x.shift(2, i, 2, 0, 1), PLACE);
            refused("37: shift to place " + i, x -> x.shift(2, 1, 2, i, 1), PLACE);
            refused("35: item of nothing at " + i, x -> x.item(5, i, 1), NOTHING);
            refused("36: read of nothing at " + i, x -> x.read(5, i), NO);
        }
        refused("37: three, of which the last is beyond the end", x -> x.shift(2, 2, 2, 0, 3), PLACE);
        refused("37: three, to beyond the end", x -> x.shift(2, 0, 2, 2, 3), PLACE);
        refused("37: none of it, from beyond the end", x -> x.shift(2, 5, 2, 0, 0), PLACE);
        refused("37: none of it, to beyond the end", x -> x.shift(2, 0, 2, 5, 0), PLACE);
        for (int sort : new int[] {-2, 5, 6, Integer.MIN_VALUE, Integer.MAX_VALUE}) {
            refused("34: sort " + sort, x -> x.tape(2, sort, 1), BAD);
        }
        for (int n : new int[] {61, 62, Integer.MAX_VALUE}) {
            refused("34: n " + n, x -> x.tape(2, 2, n), BAD);
        }
        for (int n : new int[] {-1, -2, -60, Integer.MIN_VALUE}) {
            refused("34: n " + n, x -> x.tape(2, 2, n), SIZE);
        }
        for (int t = 0; t < 4; t++) {
            int tape = t;
            refused("27: judge by sort " + t, x -> x.judge(tape, 0), CAST);
        }
    }

    private static void tapesFirst() {
        refused("34: NONE, BAD", x -> x.tape(6, 5, 61), NONE);
        refused("34: NONE, SIZE", x -> x.tape(-1, 0, -1), NONE);
        refused("34: BAD sort, SIZE", x -> x.tape(2, 5, -1), BAD);
        refused("34: BAD sort below, SIZE", x -> x.tape(5, -2, -1), BAD);
        refused("35: NONE, whatever the place", x -> x.item(6, -1, 1), NONE);
        refused("37: NONE, NOTHING", x -> x.shift(6, 0, 5, 0, 1), NONE);
        refused("37: NOTHING, NONE", x -> x.shift(5, 0, 6, 0, 1), NONE);
        refused("37: NONE, PLACE", x -> x.shift(2, -1, -1, -1, -1), NONE);
        refused("37: NOTHING, whatever the sort", x -> x.shift(2, 0, 5, 0, 0), NOTHING);
        refused("37: NOTHING, PLACE", x -> x.shift(5, -1, 2, -1, -1), NOTHING);
        refused("37: NOTHING of the same", x -> x.shift(5, 0, 5, 0, 0), NOTHING);
        refused("37: CAST", x -> x.shift(2, 0, 3, 0, 1), CAST);
        refused("37: CAST of none", x -> x.shift(3, 0, 2, 0, 0), CAST);
        refused("37: CAST, PLACE", x -> x.shift(2, -1, 4, 99, -1), CAST);
        refused("27: CAST, whatever the place", x -> x.judge(2, -1), CAST);
        refused("27: below, of nothing", x -> x.judge(5, -1), 100);
    }
}
