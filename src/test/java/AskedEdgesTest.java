/** The boundary cases of what is asked: ON, NAMED, ROUND, TEACH, HEARD, ODDS, MEAN, PLAN, BOOK. */
public final class AskedEdgesTest {
    private static final int NONE = -1, FULL = -4, ABSENT = -5, EVERY = 4095;

    public static void main(String[] args) {
        onNoSundayAndSixty();
        namedByNoSundayAndSixty();
        roundOfNobody();
        roundOfAll();
        roundOfSeveral();
        roundTakesByNumber();
        teachFewest();
        heardFive();
        knewOfOne();
        knewOrdersOfFits();
        canFromNoughtToNine();
        oddsOfTwelve();
        meanInLowestTerms();
        planOfTen();
        endsRowByRow();
        bookOfEight();
        lookedAtTheFirst();
        Expect.finish("AskedEdgesTest");
    }

    private static NamingElders children(int... knows) {
        NamingElders x = new NamingElders();
        for (int k : knows) {
            x.child(0, 0, k);
        }
        return x;
    }

    /** "ON n SUNDAYS (0 .. 60)" */
    private static void onNoSundayAndSixty() {
        for (int n = 0; n <= 60; n++) {
            NamingElders x = children(0, 0, 0, 0, 0, 0);
            Expect.due("valley", Expect.valley(x, "learn 59"), 0);
            for (int c = 0; c < 6; c++) {
                x.basket(c, 5 - c);
            }
            Expect.due("named on " + n, x.on(n, 0), n < 60 ? 0 : 6);
            for (int k = 0; k < 6; k++) {
                Expect.due("name on " + n, x.on(n, 10 + k), n < 60 ? ABSENT : (59 + 5 - k) % 12);
                Expect.due("knows on " + n, x.on(n, 20 + k), n < 59 ? 0 : 1 << (59 + k) % 12);
            }
        }
        NamingElders y = children(0b10);
        y.take(0, 5);
        Expect.due("on none, as it is", y.on(0, 0), 1);
        Expect.due("on none, its name", y.on(0, 15), 1);
        Expect.due("on none, another's", y.on(0, 14), ABSENT);
        Expect.due("on none, what it knows", y.on(0, 20), 0b10);
        NamingElders z = new NamingElders();
        Expect.due("of nobody", z.on(60, 0), 0);
        Expect.due("of nobody, a name", z.on(60, 10), ABSENT);
    }

    /** "the fewest SUNDAYS (0 .. 60) behind which it has a NAME (-5: not by then)" */
    private static void namedByNoSundayAndSixty() {
        for (int learn = 1; learn <= 61; learn++) {
            NamingElders x = children(0);
            x.basket(0, 4);
            Expect.due("valley", Expect.valley(x, "learn " + learn), 0);
            Expect.due("NAMED by learn " + learn, x.elder(4, 4), learn < 60 ? learn + 1 : ABSENT);
            Expect.due("another is never", x.elder(3, 4), ABSENT);
            x.pass(1);
            Expect.due("NAMED one SUNDAY on", x.elder(4, 4), learn <= 60 ? learn : ABSENT);
        }
        NamingElders y = children(1);
        y.basket(0, 2);
        Expect.due("by the first", y.elder(2, 4), 1);
        y.set(2, 1, 1);
        Expect.due("never, hidden", y.elder(2, 4), ABSENT);
        y.set(2, 1, 0);
        y.take(0, 2);
        Expect.due("already", y.elder(2, 4), 0);
        y.set(2, 1, 1);
        Expect.due("already, hidden then", y.elder(2, 4), 0);
        y.forget(2);
        Expect.due("not any more", y.elder(2, 4), ABSENT);
    }

    private static void roundIs(String call, NamingElders x, int many, int... way) {
        Expect.due("ROUND of " + call, x.told(5), many);
        for (int c = 0; c < way.length; c++) {
            Expect.due("ROUND of " + call + ", child " + c, x.told(10 + c), way[c]);
        }
        for (int c = way.length; c < 6; c++) {
            Expect.due("ROUND of " + call + ", no child " + c, x.told(10 + c), NONE);
        }
    }

    /** A ROUND without CHILDREN, and of those who say nothing. */
    private static void roundOfNobody() {
        roundIs("nobody", new NamingElders(), 0);
        roundIs("one that knows nothing", children(0), 0, 0);
        roundIs("six that know nothing", children(0, 0, 0, 0, 0, 0), 0, 0, 1, 2, 3, 4, 5);
        NamingElders x = children(EVERY, EVERY);
        x.bar(EVERY);
        roundIs("two whose words are all barred", x, 0, 0, 1);
        x.bar(0);
        for (int e = 0; e < 6; e++) {
            x.set(e, 1, 1);
        }
        roundIs("two, all elders hidden", x, 0, 0, 1);
        x.set(5, 1, 0);
        roundIs("two, all but one hidden", x, 1, 0, 5);
    }

    /** "how many" ELDERS have a NAME behind it: those who have one already, too. */
    private static void roundOfAll() {
        NamingElders x = children(EVERY, EVERY, EVERY, EVERY, EVERY, EVERY);
        roundIs("six", x, 6, 0, 1, 2, 3, 4, 5);
        x.take(0, 2);
        roundIs("six, one named", x, 6, 0, 1, 2, 3, 4, 5);
        for (int e = 0; e < 6; e++) {
            x.take(3, e);
        }
        roundIs("six, all named", x, 6, 0, 1, 2, 3, 4, 5);
        NamingElders y = children(EVERY);
        roundIs("one", y, 1, 0);
        for (int e = 0; e < 5; e++) {
            y.take(0, e);
            roundIs("one, " + (e + 1) + " named", y, e + 2, e + 1);
        }
        y.take(0, 5);
        roundIs("one, all named", y, 6, 0);
    }

    /** "(of several the first as a row of ELDERS by CHILDREN)" */
    private static void roundOfSeveral() {
        NamingElders x = children(0b1, 0b10, 0b100);
        Expect.due("valley", Expect.valley(x, "jar 99 p=0&l<3;jar 99 p=1&l=5;jar 99 p=2&l>1"), 0);
        // Child 0 names those who look 3 or more, child 1 all but who look 5, child 2 those who look 1 or less.
        roundIs("three, all look 5", x, 1, 0, 1, 2);
        x.set(0, 0, 1);
        roundIs("three, one looks 1", x, 2, 1, 0, 2);
        x.set(3, 0, 1);
        roundIs("three, two look 1", x, 3, 1, 0, 3);
        x.set(5, 0, 9);
        roundIs("three, the last looks 9", x, 3, 1, 0, 3);
        x.set(1, 1, 1);
        roundIs("three, one hidden", x, 3, 2, 0, 3);
        x.set(2, 1, 1);
        x.set(4, 1, 1);
        roundIs("three, three hidden", x, 3, 5, 0, 3);
        x.set(0, 1, 1);
        roundIs("three, four hidden", x, 2, 0, 5, 3);
        x.set(3, 1, 1);
        roundIs("three, five hidden", x, 1, 0, 5, 1);
    }

    /** Who comes first uses words up; and BASKETS that there are do not matter. */
    private static void roundTakesByNumber() {
        NamingElders x = children(0b11, 0b01);
        Expect.due("valley", Expect.valley(x, "suit 5 x=1&l=9"), 0);
        x.basket(0, 0);
        x.basket(1, 0);
        // To one that looks 9 child 0 says word 1, and leaves word 0 to child 1.
        roundIs("two, all look 5", x, 1, 0, 1);
        x.set(4, 0, 9);
        roundIs("two, one looks 9", x, 2, 4, 0);
        x.know(0, 0b01);
        x.know(1, 0b11);
        roundIs("two, the other way", x, 2, 0, 1);
        Expect.due("baskets stay", x.of(1, 4), 0);
        Expect.due("nobody is named", x.told(4), 0);
        x.bar(0b01);
        roundIs("two, one word barred", x, 1, 0, 1);
    }

    /** "the set with the fewest WORDS it does not KNOW .. (-5: none)" */
    private static void teachFewest() {
        NamingElders x = children(0b1000);
        Expect.due("valley", Expect.valley(x, "suit 2 x=2;suit 2 x=9;jar 9 x=4"), 0);
        int[] want = {1, 2, 4, 0, ABSENT, ABSENT, ABSENT, ABSENT, ABSENT, 1 << 9, ABSENT, ABSENT};
        for (int word = 0; word < 12; word++) {
            Expect.due("teach word " + word, x.teach(0, 5, word), want[word]);
        }
        x.know(0, 0b1000000000);
        Expect.due("knows what fits most", x.teach(0, 5, 9), 0);
        Expect.due("an equal ahead of it", x.teach(0, 5, 2), 4);
        Expect.due("fits less", x.teach(0, 5, 0), ABSENT);
        x.know(0, 0);
        Expect.due("what fits below 0", x.teach(0, 5, 4), ABSENT);
        Expect.due("the last", x.teach(0, 0, 11), 1 << 11);
        x.know(0, EVERY);
        Expect.due("knows all, the first of equals", x.teach(0, 0, 2), 0);
        Expect.due("knows all, the last of equals", x.teach(0, 0, 9), ABSENT);
        x.bar(0b100);
        Expect.due("knows all, the first barred", x.teach(0, 0, 9), 0);
        Expect.due("the barred one", x.teach(0, 0, 2), ABSENT);
        x.bar(EVERY);
        Expect.due("all barred", x.teach(0, 0, 9), ABSENT);
    }

    /** "HEARD ..: .. (5 rows at most)"; "(child -1: none then, 0, whatever the others are)" */
    private static void heardFive() {
        NamingElders x = children(0, 0);
        for (int round = 0; round < 3; round++) {
            for (int i = 1; i <= 5; i++) {
                Expect.due("hear", x.hear(i % 2, i, 12 - i), i);
                Expect.due("how many", x.count(2), i);
            }
            Expect.due("a sixth", x.hear(0, 0, 0), FULL);
            Expect.due("a sixth of nothing", x.hear(0, 0, -1), FULL);
            Expect.due("no sixth", x.count(2), 5);
            Expect.due("none then", x.hear(-1, -2, 12), 0);
            Expect.due("none", x.count(2), 0);
        }
        Expect.due("the last word, elder and child", x.hear(1, 5, 11), 1);
        // All five rows count: each child says a word of its own to an elder of its own look.
        NamingElders y = children(0);
        Expect.due("valley", Expect.valley(y, "suit 1 x=0&l=0;suit 2 x=1&l=1;suit 3 x=2&l=2;suit 4 x=3&l=3;suit 5 x=4&l=4"), 0);
        for (int e = 0; e < 5; e++) {
            y.set(e, 0, e);
            y.hear(0, e, e);
            Expect.due("knew by row " + e, y.of(0, 5), 1 << (11 - e));
            Expect.due("the least by row " + e, y.of(0, 6), (2 << e) - 1);
        }
    }

    /** "all of HEARD that is of it": not what is another's. */
    private static void knewOfOne() {
        NamingElders x = children(0b1, 0b10);
        x.hear(1, 0, 0);
        x.hear(1, 1, -1);
        Expect.due("another's", x.of(0, 5), 4096);
        Expect.due("another's, the least", x.of(0, 6), 0);
        Expect.due("another's v", x.can(0, 0), 10);
        Expect.due("its own are against each other", x.of(1, 5), 0);
        Expect.due("no least", x.of(1, 6), ABSENT);
        Expect.due("no v", x.can(1, 0), 0);
        Expect.due("no least v", x.can(1, 1), ABSENT);
        x.hear(0, 0, 0);
        Expect.due("its own", x.of(0, 5), 2048);
        Expect.due("its own, the least", x.of(0, 6), 1);
        Expect.due("what it does know does not matter", x.know(0, 0), 1);
        Expect.due("still its own", x.of(0, 5), 2048);
        Expect.due("but for v it does", x.can(0, 0), 0);
    }

    /** KNEW: who says a WORD knows it, and none of those that fit more, nor of those ahead that fit alike. */
    private static void knewOrdersOfFits() {
        NamingElders x = children(0);
        Expect.due("valley", Expect.valley(x, "suit 4 x=8;suit 4 x=10;jar 9 x<3;suit 1 x=5"), 0);
        int[] without = {12, 12, 12, 4, 5, 3, 6, 7, 1, 8, 2, 9};
        for (int word = 0; word < 12; word++) {
            x.hear(-1, 0, 0);
            x.hear(0, 3, word);
            // 8, 10, 5, then 3, 4, 6, 7, 9, 11 are said ahead of the others; 0, 1, 2 never.
            Expect.due("knew by word " + word, x.of(0, 5), word < 3 ? 0 : 1 << (12 - without[word]));
            Expect.due("the least by word " + word, x.of(0, 6), word < 3 ? ABSENT : 1 << word);
        }
        x.hear(-1, 0, 0);
        x.hear(0, 3, -1);
        Expect.due("knew by nothing", x.of(0, 5), 8);
        Expect.due("the least by nothing", x.of(0, 6), 0);
        x.bar(0b101000);
        Expect.due("knew by nothing, two barred", x.of(0, 5), 32);
        x.hear(-1, 0, 0);
        x.hear(0, 3, 4);
        Expect.due("knew by word 4, two ahead barred", x.of(0, 5), 1 << 9);
        x.hear(0, 3, 3);
        Expect.due("a barred word is not said", x.of(0, 5), 0);
        x.bar(EVERY);
        x.hear(-1, 0, 0);
        x.hear(0, 3, -1);
        Expect.due("knew by nothing, all barred", x.of(0, 5), 4096);
        Expect.due("the least, all barred", x.of(0, 6), 0);
    }

    /** "how many numbers v (0 .. 9) likewise; the least (-5: none)" */
    private static void canFromNoughtToNine() {
        for (int v = 0; v <= 9; v++) {
            NamingElders x = children(1);
            x.set(2, 0, 0);
            Expect.due("valley", Expect.valley(x, "suit 1 v=" + v), 0);
            x.hear(0, 2, 0);
            Expect.due("only v " + v, x.can(0, 0), 1);
            Expect.due("v " + v, x.can(0, 1), v);
            x.hear(-1, 0, 0);
            x.hear(0, 2, -1);
            Expect.due("all but v " + v, x.can(0, 0), 9);
            Expect.due("the least but v " + v, x.can(0, 1), v == 0 ? 1 : 0);
        }
        NamingElders x = new NamingElders();
        x.child(4, 9, 0b1000000);
        x.pass(4);
        x.hear(0, 0, 6);
        Expect.due("a CRAWLER as old as v", x.can(0, 0), 5);
        Expect.due("the least", x.can(0, 1), 0);
        x.hear(-1, 0, 0);
        x.hear(0, 0, -1);
        Expect.due("a CRAWLER too young", x.can(0, 0), 5);
        Expect.due("the least too young", x.can(0, 1), 5);
        Expect.due("its v stays", x.of(0, 1), 9);
    }

    /** "if one of the 12 WORDS, each alike likely, is BARRED now (too)": "in lowest terms" */
    private static void oddsOfTwelve() {
        NamingElders x = children(EVERY, 0);
        Expect.due("above", x.odds(0, 0, 0), 1);
        Expect.due("below", x.odds(0, 0, 1), 12);
        Expect.due("who knows nothing, above", x.odds(1, 0, 0), 0);
        Expect.due("who knows nothing, below", x.odds(1, 0, 1), 1);
        x.know(1, 1 << 11);
        Expect.due("or nothing then, above", x.odds(1, 5, 0), 1);
        Expect.due("or nothing then, below", x.odds(1, 5, 1), 12);
        x.set(5, 1, 1);
        Expect.due("hidden, above", x.odds(1, 5, 0), 0);
        Expect.due("hidden, below", x.odds(1, 5, 1), 1);
        x.take(0, 2);
        Expect.due("named, above", x.odds(0, 2, 0), 0);
        Expect.due("named, below", x.odds(0, 2, 1), 1);
        x.bar(EVERY);
        Expect.due("all barred, above", x.odds(0, 0, 0), 0);
        Expect.due("all barred, below", x.odds(0, 0, 1), 1);
    }

    /** "how many WORDS all KNOW behind n, together, by how many CHILDREN there are: a fraction in lowest terms" */
    private static void meanInLowestTerms() {
        for (int many = 1; many <= 6; many++) {
            for (int known = 0; known <= 12 * many; known++) {
                NamingElders x = new NamingElders();
                int left = known;
                for (int c = 0; c < many; c++) {
                    int its = Math.min(left, 12);
                    x.child(0, 0, (1 << its) - 1);
                    left -= its;
                }
                int divisor = 1;
                for (int d = 2; d <= many; d++) {
                    if (known % d == 0 && many % d == 0) divisor = d;
                }
                Expect.due("above of " + known + " by " + many, x.mean(0, 0), known / divisor);
                Expect.due("below of " + known + " by " + many, x.mean(60, 1), many / divisor);
            }
        }
        NamingElders y = children(0);
        Expect.due("valley", Expect.valley(y, "learn 1"), 0);
        for (int n = 0; n <= 60; n++) {
            Expect.due("learnt behind " + n, y.mean(n, 0), Math.min(n, 12));
            Expect.due("below the line behind " + n, y.mean(n, 1), 1);
        }
    }

    /** "10 rows at most"; "told as 10 times the one and the other"; "(.. by 0 n does not matter)" */
    private static void planOfTen() {
        NamingElders x = children(0, 0, 0, 0, 0, 0);
        for (int c = 0; c < 7; c++) {
            for (int e = 0; e < 10; e++) {
                x.plan(-1, 0);
                Expect.due("plan of child " + c + ", elder " + e, x.plan(1, 10 * c + e), c < 6 && e < 6 ? 1 : NONE);
            }
        }
        x.plan(-1, 0);
        int[] whatever = {Integer.MIN_VALUE, -1, 0, 6, 60, Integer.MAX_VALUE, 1, 2, 3, 4};
        for (int i = 0; i < 10; i++) {
            Expect.due("a SUNDAY, told with " + whatever[i], x.plan(0, whatever[i]), i + 1);
        }
        Expect.due("an eleventh", x.plan(0, 0), FULL);
        Expect.due("no eleventh", x.count(3), 10);
        x.basket(5, 2);
        Expect.due("valley", Expect.valley(x, "learn 9"), 0);
        Expect.due("ten SUNDAYS go", x.ends(1), 1 << (9 + 5) % 12);
        x.plan(-1, 0);
        for (int i = 0; i < 9; i++) {
            x.plan(0, 0);
        }
        Expect.due("nine SUNDAYS go", x.ends(1), 0);
    }

    /** Each sort of row of a plan, by each child and elder. */
    private static void endsRowByRow() {
        NamingElders x = children(1, 2, 4, 8, 16, 32);
        for (int c = 0; c < 6; c++) {
            for (int e = 0; e < 6; e++) {
                x.plan(-1, 0);
                x.plan(1, 10 * c + e);
                x.plan(1, 10 * ((c + 1) % 6) + e);
                Expect.due("only the first names", x.ends(1), 1 << c);
                x.plan(2, e);
                Expect.due("no name any more", x.ends(1), 0);
                x.plan(1, 10 * ((c + 1) % 6) + e);
                Expect.due("the next names", x.ends(1), 1 << (c + 1) % 6);
            }
        }
        NamingElders y = children(1, 2, 4, 8, 16, 32);
        for (int e = 0; e < 6; e++) {
            y.plan(-1, 0);
            y.plan(3, e);
            y.plan(1, e);
            Expect.due("nobody is named by", y.ends(0), 0);
            y.plan(1, (e + 1) % 6);
            Expect.due("another is", y.ends(0), 1);
            y.plan(3, (e + 1) % 6);
            Expect.due("hidden then, it has its name", y.ends(0), 1);
            y.plan(2, (e + 1) % 6);
            y.plan(1, (e + 1) % 6);
            Expect.due("hidden, not any more", y.ends(0), 0);
            Expect.due("no word is used", y.ends(1), 0);
        }
        NamingElders z = children(1);
        Expect.due("no row, nobody", z.ends(0), 0);
        z.take(0, 0);
        z.bar(6);
        Expect.due("no row, one", z.ends(0), 1);
        Expect.due("no row, words", z.ends(1), 7);
    }

    /** "(a WORD, or none; 8 at most)" */
    private static void bookOfEight() {
        NamingElders x = new NamingElders();
        for (int round = 0; round < 2; round++) {
            for (int i = 1; i <= 8; i++) {
                Expect.due("book", x.book(i % 6, i == 8 ? 11 : -1), i);
                Expect.due("how many", x.count(4), i);
            }
            Expect.due("a ninth", x.book(0, 0), FULL);
            Expect.due("a ninth of none", x.book(0, -1), FULL);
            Expect.due("no ninth", x.count(4), 8);
            Expect.due("the last row counts", x.looked(), 7);
            Expect.due("empty then", x.book(-1, 12), 0);
            Expect.due("nothing to look at", x.looked(), ABSENT);
        }
    }

    /** "the number of the first of these rows by which it is otherwise now (-5: none)" */
    private static void lookedAtTheFirst() {
        NamingElders x = children(1, 2, 4, 8, 16, 32);
        for (int e = 0; e < 6; e++) {
            x.book(e, e);
        }
        x.book(0, 0);
        x.book(5, 5);
        for (int e = 0; e < 6; e++) {
            Expect.due("not named yet", x.looked(), e);
            x.take(e, e);
        }
        Expect.due("all as told", x.looked(), ABSENT);
        x.forget(4);
        Expect.due("one is not", x.looked(), 4);
        x.forget(2);
        Expect.due("the first of two", x.looked(), 2);
        x.take(4, 2);
        Expect.due("another name", x.looked(), 2);
        x.forget(2);
        x.take(2, 2);
        x.take(4, 4);
        Expect.due("all as told again", x.looked(), ABSENT);
        x.set(1, 1, 1);
        Expect.due("hidden does not matter", x.looked(), ABSENT);
    }
}
