/** Promises 19 to 22: what is heard, odds. */
public final class HeardTest {
    private static final int NONE = -1, FULL = -4, ABSENT = -5;
    private static final long NO = Long.MIN_VALUE;

    public static void main(String[] args) {
        promise19();
        promise19Knew();
        promise20();
        promise21();
        promise22();
        Expect.finish("HeardTest");
    }

    private static void promise19() {
        NamingElders x = new NamingElders();
        x.child(0, 0, 0);
        int[][] wrong = {{-2, 0, 0}, {1, 0, 0}, {0, -1, 0}, {0, 6, 0}, {0, 0, -2}, {0, 0, 12}};
        for (int[] w : wrong) {
            Expect.due("19: no such number", x.hear(w[0], w[1], w[2]), NONE);
        }
        for (int i = 1; i <= 5; i++) {
            Expect.due("19: hear", x.hear(0, i, i == 1 ? -1 : i == 2 ? 11 : 0), i);
        }
        Expect.due("19: full", x.hear(0, 0, 0), FULL);
        Expect.due("19: none ahead of full", x.hear(0, 6, 0), NONE);
        Expect.due("19: five", x.count(2), 5);
        Expect.due("19: none then", x.hear(-1, 99, -99), 0);
        Expect.due("19: there is none", x.count(2), 0);
        Expect.due("19: all sets again", x.of(0, 5), 4096);
        Expect.due("19: one again", x.hear(0, 0, 0), 1);
    }

    private static void promise19Knew() {
        NamingElders x = new NamingElders();
        x.child(1, 2, 0);
        x.child(0, 0, 0);
        x.hear(0, 0, 3);
        // It knows 3 and none of 0, 1, 2; any of the others.
        Expect.due("19: said", x.of(0, 5), 256);
        Expect.due("19: the least", x.of(0, 6), 8);
        Expect.due("19: of another", x.of(1, 5), 4096);
        x.hear(0, 0, 3);
        Expect.due("19: twice the same", x.of(0, 5), 256);
        x.bar(0b11);
        Expect.due("19: what is barred does not matter", x.of(0, 5), 1024);
        x.hear(0, 1, 2);
        Expect.due("19: one against the other", x.of(0, 5), 0);
        Expect.due("19: no least", x.of(0, 6), ABSENT);
        x.hear(-1, 0, 0);
        x.bar(0);
        x.set(0, 0, 0);
        x.hear(0, 0, -1);
        // Only words 0 to 5 fit more than 0.
        Expect.due("19: nothing said", x.of(0, 5), 64);
        Expect.due("19: the empty set", x.of(0, 6), 0);
        x.hear(0, 1, 9);
        Expect.due("19: nothing here, a word there", x.of(0, 5), 4);
        Expect.due("19: the least of both", x.of(0, 6), 1 << 9);
        x.hear(-1, 0, 0);
        x.hear(0, 0, 9);
        Expect.due("19: what does not fit", x.of(0, 5), 0);
        x.hear(-1, 0, 0);
        x.hear(0, 2, 9);
        x.set(2, 1, 1);
        Expect.due("19: a hidden one", x.of(0, 5), 0);
        x.hear(-1, 0, 0);
        x.hear(0, 2, -1);
        Expect.due("19: nothing to a hidden one", x.of(0, 5), 4096);
        x.know(1, 1);
        x.take(1, 5);
        x.hear(0, 4, 0);
        Expect.due("19: a used word", x.of(0, 5), 0);
        x.forget(5);
        Expect.due("19: it is so now", x.of(0, 5), 2048);
    }

    private static void promise20() {
        NamingElders x = new NamingElders();
        x.child(1, 2, 0b100000100000);
        x.child(0, 0, 0);
        Expect.due("20: nothing heard", x.can(0, 0), 10);
        Expect.due("20: the least", x.can(0, 1), 0);
        x.set(0, 0, 0);
        x.hear(0, 0, 5);
        Expect.due("20: v above 0", x.can(0, 0), 9);
        Expect.due("20: the least above 0", x.can(0, 1), 1);
        Expect.due("20: of another", x.can(1, 0), 10);
        Expect.due("20: valley", Expect.valley(x, "suit 5 x=11"), 0);
        Expect.due("20: v from 5 on", x.can(0, 0), 5);
        Expect.due("20: the least from 5 on", x.can(0, 1), 5);
        x.hear(0, 1, 11);
        Expect.due("20: none", x.can(0, 0), 0);
        Expect.due("20: no least", x.can(0, 1), ABSENT);
        x.hear(-1, 0, 0);
        x.hear(0, 1, 11);
        Expect.due("20: v below 5", x.can(0, 0), 5);
        Expect.due("20: 0 on", x.can(0, 1), 0);
        Expect.due("20: its v stays", x.of(0, 1), 2);
        Expect.due("20: valley", Expect.valley(x, "suit 5 v=7"), 1);
        x.know(0, 1 << 11);
        x.hear(-1, 0, 0);
        x.hear(0, 0, 11);
        Expect.due("20: a test of v", x.can(0, 0), 1);
        Expect.due("20: that v", x.can(0, 1), 7);
        x.know(0, 0);
        x.hear(-1, 0, 0);
        x.hear(0, 0, -1);
        Expect.due("20: nothing whatever v", x.can(0, 0), 10);
        Expect.due("20: what above", x.can(0, 2), NONE);
        Expect.due("20: what below", x.can(0, -1), NONE);
        Expect.due("20: child above", x.can(2, 0), NONE);
        Expect.due("20: child below", x.can(-1, 0), NONE);
    }

    private static void promise21() {
        NamingElders x = new NamingElders();
        x.child(0, 0, 0b110);
        Expect.due("21: above", x.odds(0, 5, 0), 1);
        Expect.due("21: below", x.odds(0, 5, 1), 12);
        x.bar(0b10);
        Expect.due("21: the next, above", x.odds(0, 5, 0), 1);
        Expect.due("21: the next, below", x.odds(0, 5, 1), 12);
        x.bar(0b110);
        Expect.due("21: nothing, above", x.odds(0, 5, 0), 0);
        Expect.due("21: nothing, below", x.odds(0, 5, 1), 1);
        Expect.due("21: barred stays", x.told(2), 0b110);
        int[][] wrong = {{-1, 0, 0}, {1, 0, 0}, {0, -1, 0}, {0, 6, 0}, {0, 0, -1}, {0, 0, 2}};
        for (int[] w : wrong) {
            Expect.due("21: no such number", x.odds(w[0], w[1], w[2]), NO);
        }
    }

    private static void promise22() {
        NamingElders x = new NamingElders();
        Expect.due("22: nobody", x.mean(0, 0), NO);
        x.child(0, 0, 0);
        Expect.due("22: nothing, above", x.mean(0, 0), 0);
        Expect.due("22: nothing, below", x.mean(0, 1), 1);
        x.child(0, 0, 4095);
        Expect.due("22: six, above", x.mean(0, 0), 6);
        Expect.due("22: six, below", x.mean(0, 1), 1);
        x.child(0, 0, 1);
        Expect.due("22: thirteen thirds, above", x.mean(0, 0), 13);
        Expect.due("22: thirteen thirds, below", x.mean(0, 1), 3);
        x.child(0, 0, 1);
        Expect.due("22: seven halves, above", x.mean(0, 0), 7);
        Expect.due("22: seven halves, below", x.mean(0, 1), 2);
        x.child(0, 0, 0);
        x.child(0, 0, 1);
        Expect.due("22: five halves, above", x.mean(60, 0), 5);
        Expect.due("22: five halves, below", x.mean(60, 1), 2);
        Expect.due("22: valley", Expect.valley(x, "learn 2"), 0);
        Expect.due("22: behind one, above", x.mean(1, 0), 5);
        // At AGE 2 words 2, 4, 5, 6, 7 come to those who do not know them: 15 and 5 by 6.
        Expect.due("22: behind two, above", x.mean(2, 0), 10);
        Expect.due("22: behind two, below", x.mean(2, 1), 3);
        Expect.due("22: asked, not done", x.of(0, 2), 0);
        int[][] wrong = {{-1, 0}, {61, 0}, {0, -1}, {0, 2}};
        for (int[] w : wrong) {
            Expect.due("22: no such number", x.mean(w[0], w[1]), NO);
        }
    }
}
