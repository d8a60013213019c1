/** Promises 1 to 15: children, elders, valleys. */
public final class ChildrenTest {
    private static final int NONE = -1, BAD = -2, STATE = -3, FULL = -4, ABSENT = -5, NO_FITS = -10001;

    public static void main(String[] args) {
        promise1();
        promise2();
        promise3();
        promise4();
        promise5WithoutValley();
        promise5Letters();
        promise5Signs();
        promise6();
        promise7();
        promise8();
        promise9();
        promise10();
        promise11();
        promise12();
        promise13();
        promise14();
        promise14Holds();
        promise15();
        promise15Round();
        Expect.finish("ChildrenTest");
    }

    private static void promise1() {
        NamingElders x = new NamingElders();
        for (int what = 0; what <= 6; what++) {
            Expect.due("1: count(" + what + ")", x.count(what), 0);
        }
        for (int e = 0; e < 6; e++) {
            Expect.due("1: LOOK", x.elder(e, 0), 5);
            Expect.due("1: NAME", x.elder(e, 1), ABSENT);
            Expect.due("1: BY", x.elder(e, 2), ABSENT);
            Expect.due("1: HIDDEN", x.elder(e, 3), 0);
            Expect.due("1: NAMED", x.elder(e, 4), ABSENT);
        }
        for (int what = 0; what <= 5; what++) {
            Expect.due("1: told(" + what + ")", x.told(what), 0);
        }
        for (int t = 0; t < 6; t++) {
            Expect.due("1: a tape holds nothing", x.item(t, 0, 1), -11);
        }
        Expect.due("1: no image", x.undo(), STATE);
        Expect.due("1: no trace", x.trace(0), NONE);
    }

    private static void promise2() {
        NamingElders x = new NamingElders();
        Expect.due("2: kind below", x.child(-1, 0, 0), NONE);
        Expect.due("2: kind above", x.child(7, 0, 0), NONE);
        Expect.due("2: v below", x.child(0, -1, 0), BAD);
        Expect.due("2: v above", x.child(0, 10, 0), BAD);
        Expect.due("2: knows below", x.child(0, 0, -1), BAD);
        Expect.due("2: knows above", x.child(0, 0, 4096), BAD);
        Expect.due("2: kind first", x.child(7, 10, 4096), NONE);
        Expect.due("2: nobody yet", x.count(0), 0);
        for (int c = 0; c < 6; c++) {
            Expect.due("2: child " + c, x.child(c + 1, c == 0 ? 0 : 9, c == 1 ? 4095 : 0), c);
        }
        Expect.due("2: full", x.child(0, 0, 0), FULL);
        Expect.due("2: kind ahead of full", x.child(7, 0, 0), NONE);
        Expect.due("2: v ahead of full", x.child(0, 10, 0), BAD);
        Expect.due("2: six", x.count(0), 6);
        Expect.due("2: kind kept", x.of(5, 0), 6);
        Expect.due("2: v kept", x.of(5, 1), 9);
        Expect.due("2: knows kept", x.of(1, 2), 4095);
        Expect.due("2: age", x.of(1, 3), 0);
    }

    private static void promise3() {
        NamingElders x = new NamingElders();
        Expect.due("3: no child", x.of(0, 0), NONE);
        x.child(0, 0, 0b1000);
        x.child(1, 7, 0b100100);
        x.basket(1, 4);
        x.set(4, 1, 1);
        x.pass(3);
        int[] want = {1, 7, 0b100100, 3, 4, 4096, 0};
        for (int what = 0; what < want.length; what++) {
            Expect.due("3: of(1, " + what + ")", x.of(1, what), want[what]);
        }
        Expect.due("3: no basket", x.of(0, 4), ABSENT);
        Expect.due("3: says the first of equals", x.of(1, 10), 2);
        Expect.due("3: says nothing to the hidden", x.of(1, 14), ABSENT);
        Expect.due("3: says to the last", x.of(1, 15), 2);
        x.set(0, 0, 0);
        Expect.due("3: only above 0", x.of(0, 10), ABSENT);
        Expect.due("3: says what fits below 6", x.of(1, 10), 2);
        x.take(1, 1);
        Expect.due("3: says nothing to a named one", x.of(1, 11), ABSENT);
        Expect.due("3: a used word is not said", x.of(1, 12), 5);
        x.bar(0b100000);
        Expect.due("3: a barred word is not said", x.of(1, 12), ABSENT);
        x.hear(1, 2, 5);
        Expect.due("3: knew of a barred word", x.of(1, 5), 0);
        Expect.due("3: least of none", x.of(1, 6), ABSENT);
        int[] wrong = {-1, 7, 8, 9, 16, 20, Integer.MIN_VALUE, Integer.MAX_VALUE};
        for (int what : wrong) {
            Expect.due("3: of(1, " + what + ")", x.of(1, what), NONE);
        }
        Expect.due("3: child below", x.of(-1, 0), NONE);
        Expect.due("3: child above", x.of(2, 0), NONE);
    }

    private static void promise4() {
        NamingElders x = new NamingElders();
        x.child(0, 0, 0);
        x.child(0, 0, 0b10000000000);
        x.basket(1, 3);
        x.set(3, 0, 9);
        Expect.due("4: LOOK", x.elder(3, 0), 9);
        Expect.due("4: NAMED by one SUNDAY", x.elder(3, 4), 1);
        Expect.due("4: asked, not done", x.elder(3, 1), ABSENT);
        x.pass(1);
        Expect.due("4: NAME", x.elder(3, 1), 10);
        Expect.due("4: BY", x.elder(3, 2), 1);
        Expect.due("4: NAMED already", x.elder(3, 4), 0);
        x.set(3, 1, 1);
        Expect.due("4: HIDDEN", x.elder(3, 3), 1);
        Expect.due("4: a hidden one keeps its NAME", x.elder(3, 1), 10);
        int[] wrong = {-1, 5, 6};
        for (int what : wrong) {
            Expect.due("4: elder(3, " + what + ")", x.elder(3, what), NONE);
        }
        Expect.due("4: elder below", x.elder(-1, 0), NONE);
        Expect.due("4: elder above", x.elder(6, 0), NONE);
        namedAtTheEdge(59, 60);
        namedAtTheEdge(60, ABSENT);
    }

    /** A child that learns its only word at an age, and is taken round with it on the Sunday behind that. */
    private static void namedAtTheEdge(int learn, int want) {
        NamingElders x = new NamingElders();
        x.child(0, 0, 0);
        x.basket(0, 5);
        Expect.due("4: valley", Expect.valley(x, "learn " + learn), 0);
        Expect.due("4: NAMED with learn " + learn, x.elder(5, 4), want);
    }

    private static void promise5WithoutValley() {
        NamingElders x = new NamingElders();
        for (int kind = 0; kind < 6; kind++) {
            x.child(kind, 3, 0);
        }
        int[] first = {5, 8, 2, -5, 0, -2};
        for (int c = 0; c < 6; c++) {
            Expect.due("5: fits(" + c + ", 5, 0)", x.fits(c, 5, 0), first[c]);
        }
        Expect.due("5: BABY beyond its words", x.fits(1, 6, 0), 5);
        x.pass(2);
        Expect.due("5: CRAWLER too young", x.fits(4, 0, 0), 0);
        x.pass(1);
        Expect.due("5: CRAWLER at v", x.fits(4, 5, 0), 8);
        Expect.due("5: CRAWLER as BABY", x.fits(4, 6, 0), 5);
        Expect.due("5: valley", Expect.valley(x, "jar 8 p<9"), 0);
        int[] below = {-3, 0, -1, -13, 0, 1};
        for (int c = 0; c < 6; c++) {
            Expect.due("5: below 0, fits(" + c + ", 5, 0)", x.fits(c, 5, 0), below[c]);
        }
        NamingElders t = new NamingElders();
        t.child(6, 3, 0);
        t.row(0, 1, 7);
        t.row(0, 3, 9);
        Expect.due("5: TOLD", t.fits(0, 4, 0), -5);
        Expect.due("5: TOLD by its row", t.fits(0, 9, 0), 2);
        Expect.due("5: TOLD by its last row", t.fits(0, 11, 0), 4);
        Expect.due("5: no child", x.fits(-1, 0, 0), NO_FITS);
        Expect.due("5: no such child", x.fits(6, 0, 0), NO_FITS);
        Expect.due("5: no word", x.fits(0, -1, 0), NO_FITS);
        Expect.due("5: no such word", x.fits(0, 12, 0), NO_FITS);
        Expect.due("5: no elder", x.fits(0, 0, -1), NO_FITS);
        Expect.due("5: no such elder", x.fits(0, 0, 6), NO_FITS);
    }

    private static NamingElders withValley(String text) {
        NamingElders x = new NamingElders();
        x.child(0, 0, 0);
        x.child(0, 0, 0);
        x.child(0, 8, 0);
        x.set(3, 0, 7);
        x.pass(24);
        Expect.due("5: valley " + text, Expect.valley(x, text), 0);
        return x;
    }

    /** Child 2 has v 8, age 24; elder 3 looks 7; the word is 9. */
    private static void promise5Letters() {
        String[] holds = {"p=2", "k=0", "v=8", "x=9", "l=7", "a=4", "p>1", "p<3", "x>8", "x<10", "l<08", "a<99"};
        for (String test : holds) {
            Expect.due("5: " + test, withValley("suit 20 " + test).fits(2, 9, 3), 27);
        }
        String[] not = {"p=1", "k>0", "v<8", "v>8", "x=0", "l<7", "l>7", "a=24", "a>4", "p<2"};
        for (String test : not) {
            Expect.due("5: " + test, withValley("suit 20 " + test).fits(2, 9, 3), 7);
        }
        Expect.due("5: p of the first", withValley("suit 20 p=0").fits(0, 9, 3), 27);
    }

    private static void promise5Signs() {
        String yes = "p=2", no = "p=1";
        String[] holds = {yes + "|" + no, no + "|" + yes, yes + "&" + yes, "!" + no, "!!" + yes, no + "&" + no + "|" + yes,
            yes + "|" + no + "&" + no, "!(" + yes + "&" + no + ")", "!" + no + "|" + yes, "((((" + yes + "))))",
            "!(!(" + yes + "))", "!!!!" + yes, "(" + no + "|" + yes + ")&" + yes, no + "|" + no + "|" + yes};
        for (String test : holds) {
            Expect.due("5: " + test, withValley("jar 20 " + test).fits(2, 9, 3), -13);
        }
        String[] not = {no + "|" + no, yes + "&" + no, no + "&" + yes, "!" + yes, "!!!" + yes, "(" + yes + "|" + no + ")&" + no,
            "!" + yes + "&" + no, "!" + yes + "|" + no, yes + "&" + yes + "&" + no, "!(" + yes + "|" + no + ")"};
        for (String test : not) {
            Expect.due("5: " + test, withValley("jar 20 " + test).fits(2, 9, 3), 7);
        }
        NamingElders x = withValley("suit 30 x=9;jar 2 l=7;learn 3;suit 4 p=0;jar 50 v=8");
        Expect.due("5: together", x.fits(2, 9, 3), 7 + 30 - 2 - 50);
        Expect.due("5: together for another", x.fits(0, 8, 0), 5 + 4);
    }

    private static void promise6() {
        NamingElders x = new NamingElders();
        x.child(0, 0, 5);
        Expect.due("6: know", x.know(0, 4095), 5);
        Expect.due("6: know again", x.know(0, 0), 4095);
        Expect.due("6: child", x.know(1, 0), NONE);
        Expect.due("6: child below", x.know(-1, 4096), NONE);
        Expect.due("6: words above", x.know(0, 4096), BAD);
        Expect.due("6: words below", x.know(0, -1), BAD);
        Expect.due("6: stays", x.of(0, 2), 0);
    }

    private static void promise7() {
        NamingElders x = new NamingElders();
        x.child(0, 0, 1);
        Expect.due("7: basket", x.basket(0, 5), ABSENT);
        Expect.due("7: another", x.basket(0, 0), 5);
        Expect.due("7: elder above", x.basket(0, 6), NONE);
        Expect.due("7: elder below", x.basket(0, -2), NONE);
        Expect.due("7: child", x.basket(1, 0), NONE);
        Expect.due("7: child below", x.basket(-1, -1), NONE);
        Expect.due("7: kept", x.of(0, 4), 0);
        Expect.due("7: none", x.basket(0, -1), 0);
        Expect.due("7: had none", x.basket(0, -1), ABSENT);
        Expect.due("7: shown", x.of(0, 4), ABSENT);
        x.pass(1);
        Expect.due("7: is not taken", x.elder(0, 1), ABSENT);
    }

    private static void promise8() {
        NamingElders x = new NamingElders();
        x.child(0, 0, 0b11);
        x.child(0, 0, 0b10);
        Expect.due("8: take", x.take(0, 2), 0);
        Expect.due("8: NAME", x.elder(2, 1), 0);
        Expect.due("8: BY", x.elder(2, 2), 0);
        Expect.due("8: a named one", x.take(1, 2), ABSENT);
        Expect.due("8: its NAME stays", x.elder(2, 1), 0);
        Expect.due("8: BY stays", x.elder(2, 2), 0);
        Expect.due("8: used", x.take(0, 3), 1);
        Expect.due("8: used up", x.take(1, 4), ABSENT);
        Expect.due("8: no NAME", x.elder(4, 1), ABSENT);
        Expect.due("8: BY nobody", x.elder(4, 2), ABSENT);
        x.forget(2);
        x.set(5, 1, 1);
        Expect.due("8: hidden", x.take(0, 5), ABSENT);
        Expect.due("8: child", x.take(2, 0), NONE);
        Expect.due("8: child below", x.take(-1, 0), NONE);
        Expect.due("8: elder", x.take(0, 6), NONE);
        Expect.due("8: elder below", x.take(0, -1), NONE);
    }

    private static void promise9() {
        NamingElders x = new NamingElders();
        Expect.due("9: look", x.set(0, 0, 9), 5);
        Expect.due("9: look again", x.set(0, 0, 0), 9);
        Expect.due("9: hide", x.set(5, 1, 1), 0);
        Expect.due("9: hidden", x.set(5, 1, 1), 1);
        Expect.due("9: back", x.set(5, 1, 0), 1);
        Expect.due("9: not hidden", x.elder(5, 3), 0);
        Expect.due("9: look above", x.set(0, 0, 10), BAD);
        Expect.due("9: look below", x.set(0, 0, -1), BAD);
        Expect.due("9: hide above", x.set(0, 1, 2), BAD);
        Expect.due("9: hide below", x.set(0, 1, -1), BAD);
        Expect.due("9: what above", x.set(0, 2, 0), NONE);
        Expect.due("9: what below", x.set(0, -1, 99), NONE);
        Expect.due("9: elder above", x.set(6, 0, 99), NONE);
        Expect.due("9: elder below", x.set(-1, 0, 0), NONE);
        Expect.due("9: stays", x.elder(0, 0), 0);
    }

    private static void promise10() {
        NamingElders x = new NamingElders();
        x.child(0, 0, 0b100);
        Expect.due("10: had none", x.forget(1), ABSENT);
        x.take(0, 1);
        x.set(1, 1, 1);
        Expect.due("10: forget", x.forget(1), 2);
        Expect.due("10: no NAME", x.elder(1, 1), ABSENT);
        Expect.due("10: BY nobody", x.elder(1, 2), ABSENT);
        Expect.due("10: stays hidden", x.elder(1, 3), 1);
        Expect.due("10: the word is free", x.take(0, 0), 2);
        Expect.due("10: elder above", x.forget(6), NONE);
        Expect.due("10: elder below", x.forget(-1), NONE);
    }

    private static void promise11() {
        NamingElders x = new NamingElders();
        Expect.due("11: bar", x.bar(4095), 0);
        Expect.due("11: bar again", x.bar(6), 4095);
        Expect.due("11: above", x.bar(4096), BAD);
        Expect.due("11: below", x.bar(-1), BAD);
        Expect.due("11: stays", x.bar(6), 6);
        x.child(0, 0, 0b1110);
        Expect.due("11: what is barred is not said", x.of(0, 10), 3);
    }

    private static void promise12() {
        NamingElders x = new NamingElders();
        x.child(6, 0, 4095);
        x.child(3, 0, 0);
        Expect.due("12: row", x.row(0, 0, 9), 0);
        Expect.due("12: row again", x.row(0, 0, 4), 9);
        Expect.due("12: the last part", x.row(0, 3, 8), 0);
        Expect.due("12: another part", x.row(0, 1, 0), 0);
        Expect.due("12: by word modulo 4", x.fits(0, 8, 0), -1);
        Expect.due("12: says by its row", x.of(0, 10), 3);
        Expect.due("12: part above", x.row(0, 4, 0), NONE);
        Expect.due("12: part below", x.row(0, -1, 99), NONE);
        Expect.due("12: child above", x.row(2, 0, 0), NONE);
        Expect.due("12: child below", x.row(-1, 0, 0), NONE);
        Expect.due("12: n above", x.row(0, 0, 10), BAD);
        Expect.due("12: n below", x.row(0, 0, -1), BAD);
        Expect.due("12: another kind", x.row(1, 0, 0), STATE);
        Expect.due("12: bad ahead of state", x.row(1, 0, 10), BAD);
        Expect.due("12: stays", x.row(0, 0, 4), 4);
    }

    private static void promise13() {
        NamingElders x = new NamingElders();
        Expect.due("13: below", x.feed(-1), BAD);
        Expect.due("13: above", x.feed(128), BAD);
        for (int i = 1; i <= 100; i++) {
            Expect.due("13: feed", x.feed(i == 1 ? 0 : i == 2 ? 127 : 'x'), i);
        }
        Expect.due("13: full", x.feed('x'), FULL);
        Expect.due("13: bad ahead of full", x.feed(128), BAD);
        Expect.due("13: how many", x.count(5), 100);
    }

    private static void promise14() {
        Object[][] faults = {
            {"", 0}, {"s", 1}, {"suit", 4}, {"suit ", 5}, {"suit 1", 6}, {"suit 1 ", 7}, {"suit 1 p", 8}, {"suit 1 p=", 9},
            {"x", 0}, {"Suit 1 p=1", 0}, {"sulk", 2}, {"suit  1 p=1", 5}, {"suit 123 p=1", 7}, {"suit -1 p=1", 5},
            {"suit 1p=1", 6}, {"suit 1 q=1", 7}, {"suit 1 pp", 8}, {"suit 1 p==", 9}, {"suit 1 p=123", 11}, {"suit 1 p=1 ", 10},
            {"suit 1 p=1&", 11}, {"suit 1 p=1|", 11}, {"suit 1 p=1||", 11}, {"suit 1 p=1&|", 11}, {"suit 1 p=1)", 10},
            {"suit 1 (p=1", 11}, {"suit 1 ()", 8}, {"suit 1 (p=1))", 12}, {"suit 1 !", 8}, {"suit 1 !&", 8}, {"suit 1 p=1!", 10},
            {"suit 1 !!!!!p=1", 11}, {"suit 1 (((((p=1)))))", 11}, {"suit 1 (!(!(p=1))", 11}, {"suit 1 !(!(!p=1))", 11},
            {"suit 1 p=1;", 11}, {"suit 1 p=1;;", 11}, {";", 0}, {"jar", 3}, {"jar 1 ", 6}, {"jarr", 3}, {"jump", 1},
            {"learn", 5}, {"learn x", 6}, {"learn 100", 8}, {"learn 1 ", 7}, {"learn 1;", 8}, {"lean 1", 3}, {"lear 1", 4},
            {"learn 1;learn 2;learn 3;learn 4;learn 5;learn 6;learn 7;learn 8;learn 9;learn 0;", 79},
        };
        NamingElders x = new NamingElders();
        for (Object[] fault : faults) {
            // A text of a hundred calls wants an object of its own.
            if (fault[0].toString().length() > 20) x = new NamingElders();
            Expect.due("14: valley of " + fault[0], Expect.valley(x, fault[0].toString()), -10 - (Integer) fault[1]);
            Expect.due("14: the text is empty behind it", x.count(5), 0);
            Expect.due("14: no valley comes of it", x.count(1), 0);
            x = new NamingElders();
        }
        String[] valleys = {"learn 0", "learn 07", "suit 0 a=0", "jar 99 x>99", "suit 1 !(!(p=1&k=2))|l<3", "suit 1 ((((p=1))))&!!!!p=2",
            "learn 1;learn 2;learn 3;learn 4;learn 5;learn 6;learn 7;learn 8;learn 9;learn 0"};
        for (String text : valleys) {
            Expect.due("14: " + text, Expect.valley(new NamingElders(), text), 0);
        }
    }

    private static void promise14Holds() {
        NamingElders x = new NamingElders();
        for (int i = 0; i < 6; i++) {
            Expect.due("14: valley " + i, Expect.valley(x, "learn " + (i + 1)), i);
            Expect.due("14: it holds", x.told(1), i + 1);
            if (i == 3) {
                Expect.due("14: a fault", Expect.valley(x, "learn 9;"), -18);
                Expect.due("14: the one that held holds", x.told(1), 4);
            }
        }
        x.feed('l');
        x.feed(1);
        Expect.due("14: full, whatever the text is", x.valley(), FULL);
        Expect.due("14: the text stays", x.count(5), 2);
        Expect.due("14: six", x.count(1), 6);
        Expect.due("14: the sixth holds", x.told(1), 6);
        NamingElders y = new NamingElders();
        y.child(0, 0, 0);
        Expect.due("14: a fault behind clauses", Expect.valley(y, "suit 9 p=0;learn 3;!"), -29);
        Expect.due("14: nothing of it stays", y.fits(0, 0, 0), 5);
        Expect.due("14: no learn of it stays", y.told(1), 0);
        Expect.due("14: the first", Expect.valley(y, "suit 8 p=0"), 0);
        Expect.due("14: only its own clauses", y.fits(0, 0, 0), 13);
        Expect.due("14: only its own learn", y.told(1), 0);
    }

    private static void promise15() {
        NamingElders x = new NamingElders();
        x.child(0, 0, 0b1000);
        x.child(0, 0, 0);
        x.pass(17);
        x.bar(0b101);
        x.take(0, 4);
        Expect.due("15: valley", Expect.valley(x, "learn 5;suit 1 p=0;learn 12"), 0);
        Expect.due("15: SUNDAY", x.told(0), 17);
        Expect.due("15: the last learn", x.told(1), 12);
        Expect.due("15: BARRED", x.told(2), 0b101);
        Expect.due("15: USED", x.told(3), 0b1101);
        Expect.due("15: named", x.told(4), 1);
        Expect.due("15: ROUND", x.told(5), 1);
        Expect.due("15: the first way", x.told(10), 0);
        Expect.due("15: the second's", x.told(11), 1);
        int[] wrong = {-1, 6, 7, 8, 9, 12, 15, 16, Integer.MIN_VALUE};
        for (int what : wrong) {
            Expect.due("15: told(" + what + ")", x.told(what), NONE);
        }
        x.set(4, 1, 1);
        x.bar(0);
        Expect.due("15: a hidden one's NAME is used", x.told(3), 0b1000);
        Expect.due("15: a hidden one has its NAME", x.told(4), 1);
    }

    private static void promise15Round() {
        NamingElders x = new NamingElders();
        // Child 1 says nothing to an elder but the first; so child 0, who could have any, is taken to the second.
        x.child(0, 0, 0b1);
        x.child(3, 0, 0b10);
        Expect.due("15: valley", Expect.valley(x, "suit 9 l=0;jar 20 l=3"), 0);
        x.set(0, 0, 0);
        x.set(3, 1, 1);
        Expect.due("15: both name", x.told(5), 2);
        Expect.due("15: the first's", x.told(10), 1);
        Expect.due("15: the second's", x.told(11), 0);
        x.set(1, 0, 3);
        Expect.due("15: the first's, without elder 1", x.told(10), 2);
        x.basket(0, 5);
        Expect.due("15: whatever baskets there are", x.told(10), 2);
        x.set(2, 1, 1);
        Expect.due("15: nor a hidden one", x.told(10), 4);
        Expect.due("15: nothing is done", x.told(4), 0);
        // One word for both: the earlier child uses it up, and as a row the first way goes.
        x.know(1, 0b1);
        Expect.due("15: one word, one name", x.told(5), 1);
        Expect.due("15: the first way", x.told(10), 0);
        Expect.due("15: its second", x.told(11), 1);
        x.take(0, 4);
        Expect.due("15: with what is named", x.told(5), 1);
        Expect.due("15: still the first way", x.told(10), 0);
    }
}
