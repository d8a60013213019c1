/** The boundary cases that the terms of the document name, sentence by sentence: words, fits, Sundays. */
public final class EdgesTest {
    private static final int BAD = -2, STATE = -3, FULL = -4, ABSENT = -5, EVERY = 4095;

    public static void main(String[] args) {
        setsOfWords();
        lookOfAnElder();
        aUsedWord();
        childrenAsTheyCome();
        eachTheirOwn();
        sumBelowNought();
        babiesWords();
        theHalfOfATwin();
        shyAtEveryLook();
        crawlersAge();
        theRowOfATold();
        saysAboveNought();
        saysTheFirstOfSeveral();
        saysNothing();
        takenByNumber();
        ageIsOneMore();
        learnsAtMultiples();
        learnsModuloTwelve();
        theLastSunday();
        Expect.finish("EdgesTest");
    }

    /** An object with a valley and a child. */
    private static NamingElders with(String valley, int kind, int v, int knows) {
        NamingElders x = new NamingElders();
        if (!valley.isEmpty()) Expect.due("valley " + valley, Expect.valley(x, valley), 0);
        Expect.due("child", x.child(kind, v, knows), 0);
        return x;
    }

    /** "WORDS are 0 .. 11, sets of them as bits (0 .. 4095)." */
    private static void setsOfWords() {
        NamingElders x = with("", 0, 0, 0);
        Expect.due("know none", x.know(0, 0), 0);
        Expect.due("know all", x.know(0, EVERY), 0);
        Expect.due("knew all", x.know(0, 1 << 11), EVERY);
        Expect.due("says the last word", x.of(0, 10), 11);
        Expect.due("bar all", x.bar(EVERY), 0);
        Expect.due("all are used", x.told(3), EVERY);
        Expect.due("nothing is said", x.of(0, 10), ABSENT);
        Expect.due("bar none", x.bar(0), EVERY);
        Expect.due("the last word fits", x.fits(0, 11, 5), 5);
        Expect.due("the first word fits", x.fits(0, 0, 0), 5);
        Expect.due("a child that knows all", x.child(0, 0, EVERY), 1);
        Expect.due("it does", x.of(1, 2), EVERY);
        Expect.due("the last word of the last elder", x.take(0, 5), 11);
        Expect.due("it is its name", x.elder(5, 1), 11);
        Expect.due("it is in the book", x.book(5, 11), 1);
        Expect.due("as it is", x.looked(), ABSENT);
        Expect.due("the first word of the first elder", x.take(1, 0), 0);
        Expect.due("used", x.told(3), 1 << 11 | 1);
    }

    /** "a LOOK (0 .. 9; 5 at first)" */
    private static void lookOfAnElder() {
        NamingElders x = with("", 0, 0, 1);
        for (int e = 0; e < 6; e++) {
            Expect.due("5 at first", x.set(e, 0, 0), 5);
            Expect.due("0", x.set(e, 0, 9), 0);
            Expect.due("9", x.elder(e, 0), 9);
            Expect.due("9 fits", x.fits(0, 0, e), 9);
            Expect.due("10 is none", x.set(e, 0, 10), BAD);
            Expect.due("-1 is none", x.set(e, 0, -1), BAD);
            Expect.due("still 9", x.set(e, 0, 5), 9);
        }
    }

    /** "A WORD is USED, if it is the NAME of an ELDER, or it is BARRED" */
    private static void aUsedWord() {
        NamingElders x = with("", 0, 0, 0b11);
        x.child(0, 0, 0b01);
        x.take(0, 4);
        Expect.due("a NAME is used", x.told(3), 0b01);
        Expect.due("what it knows but the used one", x.of(0, 10), 1);
        Expect.due("nothing else is known", x.of(1, 10), ABSENT);
        x.set(4, 1, 1);
        Expect.due("of a hidden one, too", x.told(3), 0b01);
        Expect.due("not said for it, either", x.of(1, 10), ABSENT);
        x.bar(0b01);
        Expect.due("both", x.told(3), 0b01);
        x.forget(4);
        Expect.due("still barred", x.told(3), 0b01);
        Expect.due("still not said", x.of(1, 10), ABSENT);
        x.bar(0);
        Expect.due("neither", x.told(3), 0);
        Expect.due("said again", x.of(1, 10), 0);
        x.set(4, 1, 0);
        x.take(0, 4);
        x.take(0, 3);
        Expect.due("two names", x.told(3), 0b11);
        x.forget(4);
        Expect.due("only that one is free", x.told(3), 0b10);
    }

    /** "CHILDREN 0 .. 5, as they come, are of KINDS ..; with a number v (0 .. 9), what it KNOWS (WORDS), an AGE (0 at first), a BASKET (none at first)" */
    private static void childrenAsTheyCome() {
        NamingElders x = new NamingElders();
        for (int c = 0; c < 6; c++) {
            Expect.due("its number", x.child(c == 0 ? 0 : 6, c == 5 ? 9 : 0, c), c);
            x.pass(1);
        }
        for (int c = 0; c < 6; c++) {
            Expect.due("its kind", x.of(c, 0), c == 0 ? 0 : 6);
            Expect.due("its v", x.of(c, 1), c == 5 ? 9 : 0);
            Expect.due("it knows", x.of(c, 2), c);
            Expect.due("its age by when it came", x.of(c, 3), 6 - c);
            Expect.due("no basket", x.of(c, 4), ABSENT);
        }
        Expect.due("no seventh", x.child(0, 0, 0), FULL);
    }

    /** What is one child's or elder's is not another's. */
    private static void eachTheirOwn() {
        NamingElders x = new NamingElders();
        for (int c = 0; c < 6; c++) {
            x.child(6, c, 1 << c);
        }
        for (int c = 0; c < 6; c++) {
            for (int part = 0; part < 4; part++) {
                Expect.due("its row is all 0", x.row(c, part, (c + 2 * part) % 10), 0);
            }
            x.basket(c, 5 - c);
            x.know(c, 1 << 2 * c);
            x.set(c, 0, c);
        }
        x.set(3, 1, 1);
        for (int c = 0; c < 6; c++) {
            for (int part = 0; part < 4; part++) {
                Expect.due("row(" + c + ", " + part + ")", x.fits(c, part, 0), (c + 2 * part) % 10);
                Expect.due("row(" + c + ", " + part + ") is kept", x.row(c, part, 9), (c + 2 * part) % 10);
            }
            Expect.due("its basket", x.of(c, 4), 5 - c);
            Expect.due("its words", x.of(c, 2), 1 << 2 * c);
            Expect.due("its look", x.elder(c, 0), c);
            Expect.due("whether it is hidden", x.elder(c, 3), c == 3 ? 1 : 0);
        }
    }

    /** "SUM .., together (may be below 0)" */
    private static void sumBelowNought() {
        NamingElders x = with("jar 99 x>3;suit 0 x=4;jar 1 x=5;suit 99 x=2;jar 99 x=7", 0, 0, EVERY);
        x.set(0, 0, 0);
        int[] want = {0, 0, 99, 0, -99, -100, -99, -198, -99};
        for (int word = 0; word < want.length; word++) {
            Expect.due("fits of word " + word, x.fits(0, word, 0), want[word]);
        }
        Expect.due("a LOOK more", x.fits(0, 4, 1), -94);
        Expect.due("says the one above 0", x.of(0, 10), 2);
        NamingElders y = with("jar 99 l=0;jar 99 l<1;jar 99 l<2;jar 99 l<3;jar 99 l<4;jar 99 l<5;jar 99 l<6;jar 99 l<7", 3, 0, 0);
        y.set(0, 0, 0);
        Expect.due("far below 0", y.fits(0, 0, 0), -792);
    }

    /** "BABY: SUM; v more, if the number of the WORD is less than 6." */
    private static void babiesWords() {
        NamingElders x = with("", 1, 9, 0);
        for (int word = 0; word < 12; word++) {
            Expect.due("BABY's word " + word, x.fits(0, word, 2), word < 6 ? 14 : 5);
        }
    }

    /** "TWIN: the half (cut toward 0) of SUM." "IMP: 0 less what it is of a TWIN." */
    private static void theHalfOfATwin() {
        NamingElders x = with("jar 5 x>5", 2, 0, EVERY);
        x.child(5, 0, EVERY);
        // LOOK 0 .. 9 is SUM for words up to 5, and LOOK less 5 for the others.
        int[] half = {0, 0, 1, 1, 2, 2, 3, 3, 4, 4}, less = {-2, -2, -1, -1, 0, 0, 0, 1, 1, 2};
        for (int look = 0; look < 10; look++) {
            x.set(0, 0, look);
            Expect.due("the half of " + look, x.fits(0, 5, 0), half[look]);
            Expect.due("the half of " + (look - 5), x.fits(0, 6, 0), less[look]);
            Expect.due("0 less the half of " + look, x.fits(1, 5, 0), -half[look]);
            Expect.due("0 less the half of " + (look - 5), x.fits(1, 6, 0), -less[look]);
        }
        x.set(0, 0, 1);
        Expect.due("a TWIN says nothing at the half of 1", x.of(0, 10), ABSENT);
        Expect.due("an IMP says what jars", x.of(1, 10), 6);
        x.set(0, 0, 2);
        Expect.due("a TWIN at the half of 2", x.of(0, 10), 0);
        x.set(0, 0, 4);
        Expect.due("an IMP says nothing at the half of -1", x.of(1, 10), ABSENT);
    }

    /** "SHY: SUM, less twice LOOK." */
    private static void shyAtEveryLook() {
        NamingElders x = with("suit 9 x=1", 3, 7, 0b11);
        for (int look = 0; look < 10; look++) {
            x.set(4, 0, look);
            Expect.due("SHY at " + look, x.fits(0, 0, 4), -look);
            Expect.due("SHY at " + look + " of what suits", x.fits(0, 1, 4), 9 - look);
            Expect.due("SHY says at " + look, x.of(0, 14), look < 9 ? 1 : ABSENT);
        }
    }

    /** "CRAWLER: as BABY; 0, if AGE is less than v." */
    private static void crawlersAge() {
        NamingElders x = with("jar 8 x=6", 4, 2, 1);
        x.child(4, 0, 1);
        for (int age = 0; age < 5; age++) {
            Expect.due("AGE " + age, x.fits(0, 0, 0), age < 2 ? 0 : 7);
            Expect.due("AGE " + age + ", no BABY's word", x.fits(0, 11, 0), age < 2 ? 0 : 5);
            Expect.due("AGE " + age + ", below 0", x.fits(0, 6, 0), age < 2 ? 0 : -3);
            Expect.due("AGE " + age + " says", x.of(0, 10), age < 2 ? ABSENT : 0);
            Expect.due("AGE " + age + ", v 0", x.fits(1, 0, 0), 5);
            x.pass(1);
        }
        // AGE, not AGE modulo 10.
        x.pass(5);
        Expect.due("AGE 10", x.fits(0, 0, 0), 7);
    }

    /** "TOLD: as SHY, and its ROW (four numbers 0 .. 9; 0 at first) at WORD modulo 4 more." */
    private static void theRowOfATold() {
        NamingElders x = with("", 6, 3, EVERY);
        for (int word = 0; word < 12; word++) {
            Expect.due("0 at first", x.fits(0, word, 0), -5);
        }
        int[] row = {9, 0, 6, 1};
        for (int part = 0; part < 4; part++) {
            x.row(0, part, row[part]);
        }
        for (int word = 0; word < 12; word++) {
            Expect.due("row at word " + word, x.fits(0, word, 0), row[word % 4] - 5);
        }
        x.bar(0b1);
        Expect.due("says the next of that part", x.of(0, 10), 4);
    }

    /** "that .. that FITS most, if above 0" */
    private static void saysAboveNought() {
        NamingElders x = with("", 0, 0, 1 << 7);
        for (int look = 0; look < 3; look++) {
            x.set(2, 0, look);
            Expect.due("FITS " + look, x.fits(0, 7, 2), look);
            Expect.due("says at FITS " + look, x.of(0, 12), look > 0 ? 7 : ABSENT);
            Expect.due("teaches at FITS " + look, x.teach(0, 2, 3), look > 0 ? 1 << 3 : ABSENT);
            x.hear(-1, 0, 0);
            x.hear(0, 2, 7);
            Expect.due("knew at FITS " + look, x.of(0, 5), look > 0 ? 16 : 0);
            x.hear(-1, 0, 0);
            x.hear(0, 2, -1);
            Expect.due("knew by nothing at FITS " + look, x.of(0, 5), look > 0 ? 1 : 4096);
            Expect.due("odds at FITS " + look, x.odds(0, 2, 0), look > 0 ? 1 : 0);
        }
        x.set(2, 0, 0);
        Expect.due("is not taken at FITS 0", x.take(0, 2), ABSENT);
        x.set(2, 0, 1);
        Expect.due("is taken at FITS 1", x.take(0, 2), 7);
    }

    /** "(of several the first)" */
    private static void saysTheFirstOfSeveral() {
        NamingElders x = with("suit 3 x>8;jar 2 x<3", 0, 0, EVERY);
        Expect.due("the first of those that fit most", x.of(0, 10), 9);
        x.bar(1 << 9);
        Expect.due("the next of them", x.of(0, 10), 10);
        x.know(0, EVERY & ~(1 << 10));
        Expect.due("the last of them", x.of(0, 10), 11);
        x.know(0, 0b111111111);
        Expect.due("the first of those that fit less", x.of(0, 10), 3);
        x.know(0, 0b101);
        Expect.due("the first of those that fit least", x.of(0, 10), 0);
        x.know(0, 0b100);
        Expect.due("the only one", x.of(0, 10), 2);
    }

    /** "nothing, if there is none, or the ELDER has a NAME or is HIDDEN" */
    private static void saysNothing() {
        NamingElders x = with("", 0, 0, 0);
        Expect.due("it knows none", x.of(0, 10), ABSENT);
        x.know(0, 0b110);
        Expect.due("it says one", x.of(0, 10), 1);
        x.set(0, 1, 1);
        Expect.due("hidden", x.of(0, 10), ABSENT);
        Expect.due("hidden, taken", x.take(0, 0), ABSENT);
        x.set(0, 1, 0);
        Expect.due("not hidden any more", x.take(0, 0), 1);
        Expect.due("it has a NAME", x.of(0, 10), ABSENT);
        x.set(0, 1, 1);
        x.forget(0);
        Expect.due("hidden again", x.of(0, 10), ABSENT);
        x.set(0, 1, 0);
        Expect.due("neither", x.of(0, 10), 1);
        x.bar(0b10);
        Expect.due("one is used", x.of(0, 10), 2);
        x.bar(0b110);
        Expect.due("all are used", x.of(0, 10), ABSENT);
    }

    /** "one behind the other by number, each CHILD with a BASKET is TAKEN to that ELDER" */
    private static void takenByNumber() {
        NamingElders x = new NamingElders();
        x.child(0, 0, 0b010);
        x.child(0, 0, 0b011);
        x.child(0, 0, 0b111);
        x.child(0, 0, 0b1000);
        x.child(0, 0, 0b10000);
        x.basket(0, 3);
        x.basket(1, 3);
        x.basket(2, 1);
        x.basket(4, 3);
        x.pass(1);
        Expect.due("by the first of three", x.elder(3, 2), 0);
        Expect.due("its word", x.elder(3, 1), 1);
        Expect.due("by the third", x.elder(1, 2), 2);
        Expect.due("the first word was not used up", x.elder(1, 1), 0);
        Expect.due("two are named", x.told(4), 2);
        x.forget(3);
        x.basket(0, -1);
        x.know(1, 0b001);
        x.pass(1);
        Expect.due("who says nothing leaves it to the next", x.elder(3, 2), 4);
        Expect.due("its word", x.elder(3, 1), 4);
        Expect.due("nobody without a basket", x.told(3), 0b10001);
    }

    /** "Then AGE of each CHILD is 1 more" */
    private static void ageIsOneMore() {
        NamingElders x = with("suit 9 a=9", 4, 1, 1);
        x.child(0, 0, 0);
        x.basket(0, 0);
        x.pass(1);
        Expect.due("too young when it was taken", x.elder(0, 1), ABSENT);
        Expect.due("of the one", x.of(0, 3), 1);
        Expect.due("of the other", x.of(1, 3), 1);
        x.pass(1);
        Expect.due("old enough", x.elder(0, 1), 0);
        x.pass(6);
        Expect.due("AGE 8", x.fits(1, 0, 0), 5);
        x.pass(1);
        Expect.due("AGE 9", x.fits(1, 0, 0), 14);
        x.pass(1);
        Expect.due("AGE 10 modulo 10", x.fits(1, 0, 0), 5);
        x.pass(9);
        Expect.due("AGE 19 modulo 10", x.fits(1, 0, 0), 14);
    }

    /** "if LEARN is above 0 and AGE a multiple of it then" */
    private static void learnsAtMultiples() {
        NamingElders x = with("learn 99", 0, 0, 0);
        x.pass(60);
        x.pass(38);
        Expect.due("AGE 98", x.of(0, 2), 0);
        x.pass(1);
        Expect.due("AGE 99", x.of(0, 2), 1 << 99 % 12);
        NamingElders y = with("learn 00", 0, 0, 0);
        y.pass(60);
        Expect.due("LEARN 0", y.of(0, 2), 0);
        NamingElders z = with("", 0, 0, 0);
        z.pass(60);
        Expect.due("no LEARN", z.of(0, 2), 0);
        NamingElders w = with("learn 2;suit 1 p=0;learn 03", 0, 0, 0);
        w.pass(2);
        Expect.due("not by the first LEARN", w.of(0, 2), 0);
        w.pass(1);
        Expect.due("by the last", w.of(0, 2), 1 << 3);
        Expect.due("another", Expect.valley(w, "learn 4;learn 0"), 1);
        w.pass(5);
        Expect.due("the last is 0", w.of(0, 2), 1 << 3);
    }

    /** "it KNOWS the WORD (AGE and its number) modulo 12, too" */
    private static void learnsModuloTwelve() {
        NamingElders x = new NamingElders();
        Expect.due("valley", Expect.valley(x, "learn 7"), 0);
        for (int c = 0; c < 6; c++) {
            x.child(0, 0, c == 0 ? 0b1000 : 0);
        }
        x.pass(7);
        int[] seven = {7, 8, 9, 10, 11, 0};
        for (int c = 0; c < 6; c++) {
            Expect.due("AGE 7, child " + c, x.of(c, 2), 1 << seven[c] | (c == 0 ? 0b1000 : 0));
        }
        x.pass(7);
        int[] fourteen = {2, 3, 4, 5, 6, 7};
        for (int c = 0; c < 6; c++) {
            Expect.due("AGE 14, child " + c, x.of(c, 2), 1 << seven[c] | 1 << fourteen[c] | (c == 0 ? 0b1000 : 0));
        }
    }

    /** "(9999 at most)": an AGE comes no higher, as no SUNDAY goes above 9999; what is asked goes on beyond. */
    private static void theLastSunday() {
        NamingElders x = with("learn 3", 4, 9, 0);
        for (int i = 0; i < 166; i++) {
            Expect.due("pass", x.pass(60), 60 * (i + 1));
        }
        Expect.due("one too many", x.pass(40), STATE);
        Expect.due("as many as go", x.pass(39), 9999);
        x.know(0, 0);
        x.basket(0, 2);
        Expect.due("none goes", x.pass(0), 9999);
        Expect.due("not one more", x.pass(1), STATE);
        Expect.due("not sixty more", x.pass(60), STATE);
        Expect.due("too many at all", x.pass(61), BAD);
        Expect.due("AGE", x.of(0, 3), 9999);
        Expect.due("nothing is learnt by it", x.of(0, 2), 0);
        Expect.due("asked: AGE 10001 is no multiple of 3", x.on(2, 20), 0);
        Expect.due("asked: AGE 10002 is", x.on(3, 20), 1 << 10002 % 12);
        Expect.due("asked: AGE 10059", x.on(60, 20), 0b001001001001);
        Expect.due("asked: named behind AGE 10002", x.elder(2, 4), 4);
        Expect.due("asked: by that word", x.on(4, 12), 10002 % 12);
        Expect.due("asked: how many words", x.mean(6, 0), 2);
        for (int i = 0; i < 4; i++) {
            x.plan(0, 0);
        }
        Expect.due("asked: planned", x.ends(1), 1 << 10002 % 12);
        Expect.due("asked: SUNDAY stays", x.told(0), 9999);
        Expect.due("asked: AGE stays", x.of(0, 3), 9999);
    }
}
