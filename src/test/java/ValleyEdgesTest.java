/** The boundary cases of the text, its clauses and its faults. */
public final class ValleyEdgesTest {
    private static final int BAD = -2, FULL = -4;

    public static void main(String[] args) {
        signsOfTheText();
        hundredBytes();
        emptyText();
        clauses();
        blanks();
        digits();
        withinFourOthers();
        beginningsEndTooEarly();
        everySignAtEveryPlace();
        nothingStaysOfTheTextBefore();
        theNewestHolds();
        sixAtMost();
        numbersOfTests();
        longestExpressions();
        Expect.finish("ValleyEdgesTest");
    }

    private static void valleyIs(String text, int want) {
        NamingElders x = new NamingElders();
        Expect.due("valley of " + text, Expect.valley(x, text), want);
        Expect.due("the text is empty behind " + text, x.count(5), 0);
        Expect.due("how many valleys behind " + text, x.count(1), want == 0 ? 1 : 0);
    }

    private static void faultIs(String text, int fault) {
        valleyIs(text, -10 - fault);
    }

    private static int fitsBy(String text) {
        NamingElders x = new NamingElders();
        x.child(0, 3, 0);
        Expect.due("valley of " + text, Expect.valley(x, text), 0);
        return x.fits(0, 7, 0);
    }

    /** "A sign (0 .. 127) comes behind THE TEXT's: how many it has." */
    private static void signsOfTheText() {
        NamingElders x = new NamingElders();
        for (int sign = 0; sign < 128; sign++) {
            if (sign == 100) x.valley();
            Expect.due("feed " + sign, x.feed(sign), sign % 100 + 1);
        }
        Expect.due("128", x.feed(128), BAD);
        Expect.due("-1", x.feed(-1), BAD);
        Expect.due("how many", x.count(5), 28);
        for (int sign = 0; sign < 128; sign++) {
            // No other sign but these begins a valley.
            NamingElders y = new NamingElders();
            y.feed(sign);
            boolean begins = sign == 's' || sign == 'j' || sign == 'l';
            Expect.due("valley of sign " + sign, y.valley(), begins ? -11 : -10);
        }
    }

    /** "THE TEXT (bytes, 100 at most)" */
    private static void hundredBytes() {
        String text = "suit 11 x=7&p=0;jar 3 l=0;suit 1 !(v=3|k=2);learn 5;suit 20 !!p=1;jar 2 x=7;suit 02 a=0|a=1;learn 77";
        Expect.due("a hundred signs", text.length(), 100);
        NamingElders x = new NamingElders();
        x.child(0, 3, 0);
        for (int i = 0; i < 100; i++) {
            Expect.due("feed", x.feed(text.charAt(i)), i + 1);
        }
        Expect.due("full", x.feed('7'), FULL);
        Expect.due("full of any sign", x.feed(0), FULL);
        Expect.due("bad at full", x.feed(128), BAD);
        Expect.due("still a hundred", x.count(5), 100);
        Expect.due("its valley", x.valley(), 0);
        Expect.due("its fits", x.fits(0, 7, 0), 5 + 11 - 2 + 2);
        Expect.due("its learn", x.told(1), 77);
        Expect.due("there is room again", x.feed('x'), 1);
        faultIs(text.substring(0, 99) + "x", 99);
        faultIs(text.substring(0, 99) + ";", 100);
        faultIs(text.substring(0, 98) + " ", 98);
        faultIs("suit 1 p=1" + "|p=1".repeat(22) + "|p", 100);
    }

    /** "(the end of THE TEXT, if it ends too early)": of an empty one, too. */
    private static void emptyText() {
        faultIs("", 0);
        NamingElders x = new NamingElders();
        Expect.due("once", x.valley(), -10);
        Expect.due("twice", x.valley(), -10);
        Expect.due("none holds", x.told(1), 0);
    }

    /** "CLAUSES, 1 to 10, with ; between" */
    private static void clauses() {
        String ten = "learn 1;learn 2;learn 3;learn 4;learn 5;learn 6;learn 7;learn 8;learn 9;learn 0";
        valleyIs("learn 1", 0);
        valleyIs("learn 1;learn 2", 0);
        valleyIs(ten, 0);
        faultIs(ten + ";", 79);
        faultIs(ten + ";learn 1", 79);
        faultIs(ten + "1;", 80);
        valleyIs(ten + "1", 0);
        faultIs(ten.substring(0, 71) + ";", 72);
        faultIs(";learn 1", 0);
        faultIs("learn 1;;learn 2", 8);
        faultIs("learn 1;", 8);
        faultIs("learn 1,learn 2", 7);
        faultIs("learn 1; learn 2", 8);
        faultIs("suit 1 p=1;", 11);
        faultIs("jar 1 p=1;;", 10);
    }

    /** "one blank ahead of each part behind the word" */
    private static void blanks() {
        faultIs("suit1 p=1", 4);
        faultIs("suit  1 p=1", 5);
        faultIs("suit 1p=1", 6);
        faultIs("suit 1  p=1", 7);
        faultIs("suit 1 p =1", 8);
        faultIs("suit 1 p= 1", 9);
        faultIs("suit 1 p=1 ", 10);
        faultIs("suit 1 p=1 |p=1", 10);
        faultIs("suit 1 p=1| p=1", 11);
        faultIs("suit 1 ( p=1)", 8);
        faultIs("suit 1 ! p=1", 8);
        faultIs(" suit 1 p=1", 0);
        faultIs("jar\t1 p=1", 3);
        faultIs("jar1 p=1", 3);
        faultIs("jar  1 p=1", 4);
        faultIs("learn1", 5);
        faultIs("learn  1", 6);
        faultIs("learn 1 ", 7);
        faultIs("learn 1 p=1", 7);
        faultIs("learn 12 ", 8);
    }

    /** "n 1 or 2 digits"; "a number (1 or 2 digits)" */
    private static void digits() {
        String[] fine = {"suit 0 p=0", "suit 9 p=9", "suit 00 p=00", "suit 99 p=99", "jar 0 x<0", "jar 99 x>99", "learn 0", "learn 00", "learn 99"};
        for (String text : fine) {
            valleyIs(text, 0);
        }
        faultIs("suit  p=1", 5);
        faultIs("suit p=1", 5);
        faultIs("suit 100 p=1", 7);
        faultIs("jar 000 p=1", 6);
        faultIs("learn ", 6);
        faultIs("learn ;", 6);
        faultIs("learn 000", 8);
        faultIs("suit 1 p=;", 9);
        faultIs("suit 1 p=100", 11);
        faultIs("suit 1 p=1a", 10);
        faultIs("suit 1 p=/", 9);
        faultIs("suit 1 p=:", 9);
        faultIs("suit 1 p=1/", 10);
        faultIs("suit 1 p=1:", 10);
        faultIs("suit -1 p=1", 5);
        faultIs("suit +1 p=1", 5);
        faultIs("suit 1 p=-1", 9);
        NamingElders x = new NamingElders();
        String[] learn = {"0", "1", "9", "00", "01", "09", "10", "11", "90", "99"};
        int[] want = {0, 1, 9, 0, 1, 9};
        for (int i = 0; i < 6; i++) {
            Expect.due("valley", Expect.valley(x, "learn " + learn[i]), i);
            Expect.due("learn " + learn[i], x.told(1), want[i]);
        }
        int[] two = {10, 11, 90, 99};
        for (int i = 0; i < 4; i++) {
            Expect.due("suit " + learn[6 + i], fitsBy("suit " + learn[6 + i] + " p=0"), 5 + two[i]);
            Expect.due("jar " + learn[6 + i], fitsBy("jar " + learn[6 + i] + " p=0"), 5 - two[i]);
        }
    }

    /** "A ( or ! within 4 others is none." */
    private static void withinFourOthers() {
        String[] four = {"((((", "!!!!", "(!(!", "!(!(", "((!!", "!!((", "(((!", "!((("};
        for (String signs : four) {
            String closed = ")".repeat(signs.replace("!", "").length());
            valleyIs("suit 1 " + signs + "p=1" + closed, 0);
            faultIs("suit 1 " + signs + "(p=1", 11);
            faultIs("suit 1 " + signs + "!p=1", 11);
            faultIs("suit 1 " + signs, 11);
            int behind = 14 + closed.length();
            // Behind them there is room again: for four, not for five.
            valleyIs("suit 1 " + signs + "p=1" + closed + "&" + signs + "p=1" + closed, 0);
            valleyIs("suit 1 " + signs + "p=1" + closed + "|" + signs + "p=1" + closed, 0);
            faultIs("suit 1 " + signs + "p=1" + closed + "&" + signs + "!p=1" + closed, behind + 1 + 4);
        }
        valleyIs("suit 1 (((!p=1&!p=2|!p=3)))", 0);
        faultIs("suit 1 ((((p=1&!p=2))))", 15);
        faultIs("suit 1 (((!p=1&!(p=2))))", 16);
        faultIs("suit 1 !(!(!p=1&!p=2|(!p=3)))", 11);
        valleyIs("suit 1 (((p=1)&(p=2))|(!(p=3)))", 0);
        valleyIs("suit 1 !!!!p=1;suit 1 !!!!p=1", 0);
    }

    /** "The FAULT: .. (the end of THE TEXT, if it ends too early)" */
    private static void beginningsEndTooEarly() {
        String text = "suit 12 !(p=1|k<22)&x>3|v=0;jar 4 !!(l=1);learn 60;suit 1 a=3";
        String ends = "suit 12 !(p=1|k<22)";
        for (int i = 0; i <= text.length(); i++) {
            int fault = PlainValley.fault(text.substring(0, i));
            Expect.due("a fault at the end, or none", fault == i || fault == -1 ? 1 : 0, 1);
            valleyIs(text.substring(0, i), fault < 0 ? 0 : -10 - i);
        }
        for (int i = 0; i < ends.length(); i++) {
            faultIs(ends.substring(0, i), i);
        }
        valleyIs(ends, 0);
    }

    /** "The FAULT: the place of the first byte with which none begins so" */
    private static void everySignAtEveryPlace() {
        String[] texts = {"suit 1 !(p=1|k<2)&x>3;learn 4", "jar 22 ((l>0));suit 0 v=77", "suit 5 (((!a=9)))"};
        for (String text : texts) {
            for (int place = 0; place <= text.length(); place++) {
                for (char sign = 0; sign < 128; sign++) {
                    check(text.substring(0, place) + sign + text.substring(Math.min(place + 1, text.length())));
                    check(text.substring(0, place) + sign + text.substring(place));
                }
            }
        }
    }

    private static void check(String text) {
        NamingElders x = new NamingElders();
        for (int i = 0; i < text.length(); i++) {
            x.feed(text.charAt(i));
        }
        int fault = PlainValley.fault(text);
        Expect.due("valley of " + text, x.valley(), fault < 0 ? 0 : -10 - fault);
    }

    /** "THE TEXT, which is empty then": a shorter text behind a longer one ends where it ends. */
    private static void nothingStaysOfTheTextBefore() {
        String text = "suit 12 (p=1|k<2);learn 55";
        for (int i = 0; i < text.length(); i++) {
            String begins = text.substring(0, i);
            int fault = PlainValley.fault(begins);
            NamingElders x = new NamingElders();
            Expect.due("valley of " + text, Expect.valley(x, text), 0);
            Expect.due("behind it valley of " + begins, Expect.valley(x, begins), fault < 0 ? 1 : -10 - fault);
            NamingElders y = new NamingElders();
            Expect.due("fault of " + text, Expect.valley(y, text + "x"), -36);
            Expect.due("behind the fault valley of " + begins, Expect.valley(y, begins), fault < 0 ? 0 : -10 - fault);
        }
        NamingElders x = new NamingElders();
        x.child(0, 0, 0);
        Expect.due("a valley", Expect.valley(x, "suit 9 p=0&x<5;learn 44"), 0);
        Expect.due("a shorter number", Expect.valley(x, "suit 9 p=0&x<1"), 1);
        Expect.due("of it alone", x.fits(0, 4, 0), 5);
        Expect.due("no learn stays", x.told(1), 0);
        Expect.due("clauses of it alone", Expect.valley(x, "learn 4"), 2);
        Expect.due("nothing suits any more", x.fits(0, 0, 0), 5);
        Expect.due("its learn", x.told(1), 4);
    }

    /** "The newest VALLEY holds ..; without one there are no CLAUSES"; "(the one that held holds)" */
    private static void theNewestHolds() {
        NamingElders x = new NamingElders();
        x.child(0, 0, 0);
        Expect.due("no clauses", x.fits(0, 0, 0), 5);
        Expect.due("a fault", Expect.valley(x, "suit 1 p=0;"), -21);
        Expect.due("none holds still", x.fits(0, 0, 0), 5);
        Expect.due("one", Expect.valley(x, "suit 1 p=0"), 0);
        Expect.due("it holds", x.fits(0, 0, 0), 6);
        Expect.due("a fault", Expect.valley(x, "suit 2 p=0;learn 3;j"), -30);
        Expect.due("it holds still", x.fits(0, 0, 0), 6);
        Expect.due("its learn, too", x.told(1), 0);
        Expect.due("the next number", Expect.valley(x, "suit 3 p=0;learn 9"), 1);
        Expect.due("the newest holds", x.fits(0, 0, 0), 8);
        Expect.due("a fault", Expect.valley(x, "learn 3x"), -17);
        Expect.due("the newest's learn", x.told(1), 9);
    }

    /** "(6 at most)"; "FULL: there are 6 (THE TEXT stays)" */
    private static void sixAtMost() {
        NamingElders x = new NamingElders();
        for (int i = 0; i < 6; i++) {
            Expect.due("fault", Expect.valley(x, "learn"), -15);
            Expect.due("valley " + i, Expect.valley(x, "learn " + i), i);
        }
        Expect.due("six", x.count(1), 6);
        Expect.due("full of an empty text", x.valley(), FULL);
        Expect.due("full of a valley", Expect.valley(x, "learn 6"), FULL);
        Expect.due("the text stays", x.count(5), 7);
        x.feed('x');
        Expect.due("full of a fault", x.valley(), FULL);
        Expect.due("the text stays", x.count(5), 8);
        Expect.due("it goes on", x.feed('y'), 9);
        Expect.due("the sixth holds", x.told(1), 5);
        Expect.due("still six", x.count(1), 6);
    }

    /** "p the number of the first, k its KIND, v its v, x the number of the WORD, l the LOOK of the ELDER, a AGE modulo 10" */
    private static void numbersOfTests() {
        int[] values = {5, 6, 9, 11, 8, 7};
        for (int letter = 0; letter < 6; letter++) {
            for (int n = 0; n < 100; n += n < 14 ? 1 : 17) {
                for (char sign : new char[] {'<', '=', '>'}) {
                    NamingElders x = new NamingElders();
                    for (int c = 0; c < 6; c++) {
                        x.child(c + 1, c + 4, 0);
                    }
                    x.set(2, 0, 8);
                    x.pass(37);
                    String text = "suit 50 " + "pkvxla".charAt(letter) + sign + n;
                    Expect.due("valley of " + text, Expect.valley(x, text), 0);
                    boolean holds = sign == '<' ? values[letter] < n : sign == '=' ? values[letter] == n : values[letter] > n;
                    Expect.due(text, x.fits(5, 11, 2), holds ? 50 - 8 : -8);
                }
            }
        }
    }

    /** As many tests, ands and ors as a text holds. */
    private static void longestExpressions() {
        Expect.due("ors, the last holds", fitsBy("suit 9 " + "p>0|".repeat(22) + "p=0"), 14);
        Expect.due("ors, none holds", fitsBy("suit 9 " + "p>0|".repeat(22) + "p>0"), 5);
        Expect.due("ors, the first holds", fitsBy("suit 9 p=0" + "|p>0".repeat(22)), 14);
        Expect.due("ands, all hold", fitsBy("suit 9 " + "p=0&".repeat(22) + "p=0"), 14);
        Expect.due("ands, the last does not", fitsBy("suit 9 " + "p=0&".repeat(22) + "p>0"), 5);
        Expect.due("ands, the first does not", fitsBy("suit 9 p>0" + "&p=0".repeat(22)), 5);
        Expect.due("ands of ors", fitsBy("suit 9 " + "(p>0|p=0)&".repeat(8) + "p=0"), 14);
        Expect.due("& ahead of |", fitsBy("suit 9 p=0|p=0&p>0"), 14);
        Expect.due("& ahead of |, the other way", fitsBy("suit 9 p>0&p=0|p=0"), 14);
        Expect.due("brackets ahead of &", fitsBy("suit 9 (p=0|p=0)&p>0"), 5);
        Expect.due("! of the next alone", fitsBy("suit 9 !p>0&p>0"), 5);
        Expect.due("! of the next alone, or", fitsBy("suit 9 !p=0|p=0"), 14);
        Expect.due("! of brackets", fitsBy("suit 9 !(p=0|p=0)"), 5);
        Expect.due("three !", fitsBy("suit 9 !!!p=0"), 5);
        Expect.due("four !", fitsBy("suit 9 !!!!p=0"), 14);
        for (int signs = 0; signs <= 4; signs++) {
            for (int brackets = 0; brackets + signs <= 4; brackets++) {
                String text = "suit 9 " + "(".repeat(brackets) + "!".repeat(signs) + "p=0" + ")".repeat(brackets);
                Expect.due(text, fitsBy(text), signs % 2 == 0 ? 14 : 5);
                String other = "suit 9 " + "!".repeat(signs) + "(".repeat(brackets) + "p=0" + ")".repeat(brackets);
                Expect.due(other, fitsBy(other), signs % 2 == 0 ? 14 : 5);
            }
        }
        String ten = "suit 9 p=0;jar 2 p=0;jar 9 p>0;learn 1;suit 1 v=3;suit 1 x=7;jar 1 x=6;jar 1 l=4;jar 9 k=9;jar 9 k=1";
        Expect.due("ten clauses", fitsBy(ten), 5 + 9 - 2 + 1 + 1);
    }
}
