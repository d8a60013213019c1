/** Promises 23 to 26: plans, books. */
public final class PlansTest {
    private static final int NONE = -1, FULL = -4, ABSENT = -5;

    public static void main(String[] args) {
        promise23();
        promise24();
        promise24Order();
        promise25();
        promise26();
        Expect.finish("PlansTest");
    }

    private static void promise23() {
        NamingElders x = new NamingElders();
        x.child(0, 0, 0);
        x.child(0, 0, 0);
        int[][] wrong = {{-2, 0}, {4, 0}, {1, -1}, {1, 6}, {1, 9}, {1, 16}, {1, 20}, {1, 100}, {1, Integer.MIN_VALUE},
            {2, -1}, {2, 6}, {3, -1}, {3, 6}};
        for (int[] w : wrong) {
            Expect.due("23: plan(" + w[0] + ", " + w[1] + ")", x.plan(w[0], w[1]), NONE);
        }
        int[][] fine = {{0, -99}, {0, 6}, {1, 0}, {1, 5}, {1, 15}, {2, 0}, {2, 5}, {3, 0}, {3, 5}, {1, 10}};
        for (int i = 0; i < fine.length; i++) {
            Expect.due("23: plan(" + fine[i][0] + ", " + fine[i][1] + ")", x.plan(fine[i][0], fine[i][1]), i + 1);
        }
        Expect.due("23: full", x.plan(0, 0), FULL);
        Expect.due("23: none ahead of full", x.plan(2, 6), NONE);
        Expect.due("23: ten", x.count(3), 10);
        Expect.due("23: empty then", x.plan(-1, 99), 0);
        Expect.due("23: none", x.count(3), 0);
        Expect.due("23: one again", x.plan(0, 0), 1);
    }

    private static void promise24() {
        NamingElders x = new NamingElders();
        x.child(0, 0, 0b100);
        x.child(0, 0, 0b110000);
        x.basket(1, 5);
        x.bar(1);
        Expect.due("24: nothing planned", x.ends(0), 0);
        Expect.due("24: what is barred is used", x.ends(1), 1);
        x.plan(1, 3);
        Expect.due("24: one taken", x.ends(0), 1);
        Expect.due("24: its word", x.ends(1), 0b101);
        x.plan(0, 0);
        Expect.due("24: a SUNDAY", x.ends(0), 2);
        Expect.due("24: its word, too", x.ends(1), 0b10101);
        x.plan(2, 3);
        Expect.due("24: no NAME any more", x.ends(0), 1);
        Expect.due("24: its word is free", x.ends(1), 0b10001);
        x.plan(3, 3);
        x.plan(1, 3);
        Expect.due("24: a hidden one", x.ends(0), 1);
        x.plan(3, 5);
        Expect.due("24: a hidden one keeps its NAME", x.ends(1), 0b10001);
        x.plan(1, 12);
        Expect.due("24: by the other", x.ends(1), 0b110001);
        Expect.due("24: what above", x.ends(2), NONE);
        Expect.due("24: what below", x.ends(-1), NONE);
        Expect.due("24: asked, not done", x.told(4), 0);
        Expect.due("24: nobody is hidden", x.elder(3, 3), 0);
        Expect.due("24: no SUNDAY went", x.told(0), 0);
        x.take(0, 0);
        Expect.due("24: goes on from how all is", x.ends(1), 0b110101);
    }

    private static void promise24Order() {
        NamingElders x = new NamingElders();
        x.child(0, 0, 0);
        x.basket(0, 2);
        Expect.due("24: valley", Expect.valley(x, "learn 2"), 0);
        x.plan(0, 0);
        x.plan(0, 0);
        Expect.due("24: learnt behind the second", x.ends(0), 0);
        x.plan(0, 0);
        Expect.due("24: said in the third", x.ends(1), 0b100);
        x.pass(1);
        x.plan(-1, 0);
        x.plan(0, 0);
        x.plan(1, 4);
        x.plan(1, 2);
        Expect.due("24: row by row", x.ends(0), 1);
        x.book(4, 2);
        x.plan(2, 4);
        x.plan(1, 2);
        Expect.due("24: the word goes to another", x.ends(0), 1);
    }

    private static void promise25() {
        NamingElders x = new NamingElders();
        int[][] wrong = {{-2, 0}, {6, 0}, {0, -2}, {0, 12}};
        for (int[] w : wrong) {
            Expect.due("25: no such number", x.book(w[0], w[1]), NONE);
        }
        for (int i = 1; i <= 8; i++) {
            Expect.due("25: book", x.book(i % 6, i == 1 ? 11 : i == 2 ? 0 : -1), i);
        }
        Expect.due("25: full", x.book(0, 0), FULL);
        Expect.due("25: none ahead of full", x.book(6, 0), NONE);
        Expect.due("25: eight", x.count(4), 8);
        Expect.due("25: empty then", x.book(-1, 99), 0);
        Expect.due("25: none", x.count(4), 0);
        Expect.due("25: one again", x.book(0, 0), 1);
    }

    private static void promise26() {
        NamingElders x = new NamingElders();
        x.child(0, 0, 0b1001);
        Expect.due("26: empty", x.looked(), ABSENT);
        x.book(2, -1);
        Expect.due("26: no NAME is so", x.looked(), ABSENT);
        x.book(3, 0);
        Expect.due("26: not named", x.looked(), 1);
        x.take(0, 3);
        Expect.due("26: named so", x.looked(), ABSENT);
        x.take(0, 2);
        Expect.due("26: named, told as none", x.looked(), 0);
        x.forget(2);
        x.book(3, 3);
        Expect.due("26: another NAME", x.looked(), 2);
        x.book(5, 5);
        Expect.due("26: the first of several", x.looked(), 2);
    }
}
