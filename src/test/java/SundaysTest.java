/** Promises 16 to 18: Sundays. */
public final class SundaysTest {
    private static final int NONE = -1, BAD = -2, STATE = -3, ABSENT = -5;

    public static void main(String[] args) {
        promise16();
        promise16Order();
        promise16Learn();
        promise16Last();
        promise17();
        promise17Beyond();
        promise18();
        Expect.finish("SundaysTest");
    }

    private static void promise16() {
        NamingElders x = new NamingElders();
        x.child(0, 0, 0b11);
        x.basket(0, 2);
        Expect.due("16: none goes", x.pass(0), 0);
        Expect.due("16: nobody is named", x.told(4), 0);
        Expect.due("16: one goes", x.pass(1), 1);
        Expect.due("16: named", x.elder(2, 1), 0);
        Expect.due("16: by", x.elder(2, 2), 0);
        Expect.due("16: age", x.of(0, 3), 1);
        Expect.due("16: sixty go", x.pass(60), 61);
        Expect.due("16: age behind them", x.of(0, 3), 61);
        Expect.due("16: above", x.pass(61), BAD);
        Expect.due("16: below", x.pass(-1), BAD);
        Expect.due("16: stays", x.told(0), 61);
        x.child(0, 0, 0);
        x.pass(4);
        Expect.due("16: a later child's age", x.of(1, 3), 4);
    }

    private static void promise16Order() {
        NamingElders x = new NamingElders();
        for (int c = 0; c < 3; c++) {
            x.child(0, 0, 0b11);
        }
        x.basket(2, 0);
        x.basket(1, 0);
        x.basket(0, 4);
        x.pass(1);
        Expect.due("16: the first takes the first word", x.elder(4, 1), 0);
        Expect.due("16: the next the next", x.elder(0, 1), 1);
        Expect.due("16: by the next", x.elder(0, 2), 1);
    }

    private static void promise16Learn() {
        NamingElders x = new NamingElders();
        x.child(0, 0, 0);
        x.child(0, 0, 1);
        x.basket(1, 3);
        Expect.due("16: valley", Expect.valley(x, "learn 3"), 0);
        x.pass(2);
        Expect.due("16: nothing learnt yet", x.of(0, 2), 0);
        x.pass(1);
        Expect.due("16: AGE 3, number 0", x.of(0, 2), 1 << 3);
        Expect.due("16: AGE 3, number 1, too", x.of(1, 2), 1 | 1 << 4);
        x.pass(6);
        Expect.due("16: AGE 9, number 0", x.of(0, 2), 1 << 3 | 1 << 6 | 1 << 9);
        x.pass(3);
        Expect.due("16: AGE 12, number 0", x.of(0, 2), 1 << 3 | 1 << 6 | 1 << 9 | 1);
        x.child(0, 0, 0);
        x.pass(3);
        Expect.due("16: by its own age", x.of(2, 2), 1 << 5);
        NamingElders y = new NamingElders();
        y.child(0, 0, 0);
        y.basket(0, 1);
        Expect.due("16: learn 0", Expect.valley(y, "learn 0"), 0);
        y.pass(60);
        Expect.due("16: learns nothing", y.of(0, 2), 0);
        Expect.due("16: learn 1", Expect.valley(y, "learn 1"), 1);
        y.pass(1);
        Expect.due("16: is taken ahead of learning", y.elder(1, 1), ABSENT);
        Expect.due("16: learns", y.of(0, 2), 1 << 1);
        y.pass(1);
        Expect.due("16: names with it", y.elder(1, 1), 1);
    }

    private static NamingElders old() {
        NamingElders x = new NamingElders();
        x.child(0, 0, 0);
        for (int i = 0; i < 166; i++) {
            x.pass(60);
        }
        return x;
    }

    private static void promise16Last() {
        NamingElders x = old();
        Expect.due("16: beyond the last", x.pass(40), STATE);
        Expect.due("16: nothing went", x.told(0), 9960);
        Expect.due("16: bad ahead of state", x.pass(61), BAD);
        Expect.due("16: to the last", x.pass(39), 9999);
        Expect.due("16: none goes", x.pass(0), 9999);
        Expect.due("16: one more", x.pass(1), STATE);
        Expect.due("16: age", x.of(0, 3), 9999);
    }

    private static void promise17() {
        NamingElders x = new NamingElders();
        x.child(0, 0, 0b10);
        x.child(4, 3, 0b100);
        x.basket(0, 0);
        x.basket(1, 5);
        Expect.due("17: valley", Expect.valley(x, "learn 4"), 0);
        Expect.due("17: none yet", x.on(0, 0), 0);
        Expect.due("17: one behind one", x.on(1, 0), 1);
        Expect.due("17: one behind three", x.on(3, 0), 1);
        Expect.due("17: two behind four", x.on(4, 0), 2);
        Expect.due("17: NAME", x.on(1, 10), 1);
        Expect.due("17: no NAME", x.on(3, 15), ABSENT);
        Expect.due("17: NAME of the last", x.on(4, 15), 2);
        Expect.due("17: KNOWS", x.on(3, 20), 0b10);
        Expect.due("17: learnt", x.on(4, 21), 0b100100);
        Expect.due("17: learnt by sixty", x.on(60, 20), 0b100010011);
        int[] wrong = {-1, 1, 9, 16, 19, 22, 26, Integer.MIN_VALUE, Integer.MAX_VALUE};
        for (int what : wrong) {
            Expect.due("17: on(1, " + what + ")", x.on(1, what), NONE);
        }
        Expect.due("17: n above", x.on(61, 0), BAD);
        Expect.due("17: n below", x.on(-1, 21), BAD);
        Expect.due("17: none ahead of bad", x.on(61, 1), NONE);
        Expect.due("17: asked, not done", x.told(4), 0);
        Expect.due("17: no SUNDAY went", x.told(0), 0);
        Expect.due("17: no age", x.of(0, 3), 0);
        Expect.due("17: nothing learnt", x.of(1, 2), 0b100);
        x.pass(2);
        Expect.due("17: goes on from how all is", x.on(2, 15), 2);
        Expect.due("17: goes on from its age", x.on(2, 20), 0b10010);
    }

    private static void promise17Beyond() {
        NamingElders x = old();
        x.pass(39);
        Expect.due("17: valley", Expect.valley(x, "learn 4"), 0);
        Expect.due("17: AGE 10000 beyond 9999", x.on(1, 20), 1 << 4);
        Expect.due("17: AGE 10004", x.on(5, 20), 1 << 4 | 1 << 8);
        x.plan(0, 0);
        x.basket(0, 0);
        x.plan(0, 0);
        Expect.due("17: in a plan, too", x.ends(1), 1 << 4);
        Expect.due("17: its age stays", x.of(0, 3), 9999);
    }

    private static void promise18() {
        NamingElders x = new NamingElders();
        x.child(1, 4, 0b10);
        Expect.due("18: says it already", x.teach(0, 0, 1), 0);
        Expect.due("18: the first of equals", x.teach(0, 0, 0), 1);
        Expect.due("18: behind an equal", x.teach(0, 0, 2), ABSENT);
        Expect.due("18: fits less", x.teach(0, 0, 6), ABSENT);
        x.bar(0b10);
        Expect.due("18: what it knows is barred", x.teach(0, 0, 2), 0b100);
        Expect.due("18: the barred one", x.teach(0, 0, 1), ABSENT);
        Expect.due("18: the last word", x.teach(0, 5, 11), 1 << 11);
        x.set(2, 0, 0);
        Expect.due("18: not above 0", x.teach(0, 2, 11), ABSENT);
        Expect.due("18: by v alone", x.teach(0, 2, 5), 1 << 5);
        x.set(1, 1, 1);
        Expect.due("18: hidden", x.teach(0, 1, 5), ABSENT);
        x.know(0, 1 << 7);
        x.take(0, 3);
        Expect.due("18: named", x.teach(0, 3, 0), ABSENT);
        Expect.due("18: used", x.teach(0, 4, 7), ABSENT);
        Expect.due("18: it knows no more", x.of(0, 2), 1 << 7);
        int[][] wrong = {{-1, 0, 0}, {1, 0, 0}, {0, -1, 0}, {0, 6, 0}, {0, 0, -1}, {0, 0, 12}};
        for (int[] w : wrong) {
            Expect.due("18: no such number", x.teach(w[0], w[1], w[2]), NONE);
        }
    }
}
