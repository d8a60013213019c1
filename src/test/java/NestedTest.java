/** "E: T or T|E. T: F or F&T. F: !F, (E), or a TEST": what stands within what, by all that four TESTS can be. */
public final class NestedTest {
    /** What a shape comes to. */
    private interface Shape {
        boolean holds(boolean a, boolean b, boolean c, boolean d);
    }

    public static void main(String[] args) {
        withoutBrackets();
        bracketsBehind();
        bracketsAhead();
        notOfBrackets();
        bracketsInBrackets();
        severalClauses();
        Expect.finish("NestedTest");
    }

    /** Puts a TEST that holds, or one that does not, for A, B, C and D, in all sixteen ways. */
    private static void shape(String shape, Shape want) {
        for (int way = 0; way < 16; way++) {
            StringBuilder text = new StringBuilder("suit 9 ");
            for (char sign : shape.toCharArray()) {
                boolean isTest = sign >= 'A' && sign <= 'D';
                if (isTest) {
                    text.append((way >> sign - 'A' & 1) == 1 ? "x=7" : "x<7");
                } else {
                    text.append(sign);
                }
            }
            NamingElders x = new NamingElders();
            x.child(0, 0, 0);
            Expect.due("valley of " + text, Expect.valley(x, text.toString()), 0);
            boolean holds = want.holds((way & 1) == 1, (way & 2) == 2, (way & 4) == 4, (way & 8) == 8);
            Expect.due("fits by " + text, x.fits(0, 7, 0), holds ? 14 : 5);
        }
    }

    private static void withoutBrackets() {
        shape("A|B|C|D", (a, b, c, d) -> a || b || c || d);
        shape("A&B&C&D", (a, b, c, d) -> a && b && c && d);
        shape("A|B&C|D", (a, b, c, d) -> a || (b && c) || d);
        shape("A&B|C&D", (a, b, c, d) -> (a && b) || (c && d));
        shape("A|B&C&D", (a, b, c, d) -> a || (b && c && d));
        shape("A&B&C|D", (a, b, c, d) -> (a && b && c) || d);
        shape("!A|!B&!C|!D", (a, b, c, d) -> !a || (!b && !c) || !d);
    }

    private static void bracketsBehind() {
        shape("A&(B&C)", (a, b, c, d) -> a && b && c);
        shape("A&(B&C&D)", (a, b, c, d) -> a && b && c && d);
        shape("A&(B|C&D)", (a, b, c, d) -> a && (b || (c && d)));
        shape("A|(B&C)", (a, b, c, d) -> a || (b && c));
        shape("A|(B|C)&D", (a, b, c, d) -> a || ((b || c) && d));
        shape("A&B&(C|D)", (a, b, c, d) -> a && b && (c || d));
        shape("A|B&(C|D)", (a, b, c, d) -> a || (b && (c || d)));
        shape("A|B&(C&D)", (a, b, c, d) -> a || (b && c && d));
        shape("A&B|(C&D)", (a, b, c, d) -> (a && b) || (c && d));
    }

    private static void bracketsAhead() {
        shape("(A&B)&C", (a, b, c, d) -> a && b && c);
        shape("(A|B)&C|D", (a, b, c, d) -> ((a || b) && c) || d);
        shape("(A|B)&(C|D)", (a, b, c, d) -> (a || b) && (c || d));
        shape("(A&B)|(C&D)", (a, b, c, d) -> (a && b) || (c && d));
        shape("(A&B|C)&D", (a, b, c, d) -> ((a && b) || c) && d);
        shape("(A|B&C)&D", (a, b, c, d) -> (a || (b && c)) && d);
    }

    private static void notOfBrackets() {
        shape("A&!(B&C)", (a, b, c, d) -> a && !(b && c));
        shape("A|!(B&C)", (a, b, c, d) -> a || !(b && c));
        shape("A|!(B|C)&D", (a, b, c, d) -> a || (!(b || c) && d));
        shape("!(A&B)&!(C|D)", (a, b, c, d) -> !(a && b) && !(c || d));
        shape("!(A|B)|!(C&D)", (a, b, c, d) -> !(a || b) || !(c && d));
        shape("!(A&!(B|C))&D", (a, b, c, d) -> !(a && !(b || c)) && d);
        shape("A&!!(B|(C&D))", (a, b, c, d) -> a && (b || (c && d)));
    }

    private static void bracketsInBrackets() {
        shape("A&(B|(C&D))", (a, b, c, d) -> a && (b || (c && d)));
        shape("A|(B&(C|D))", (a, b, c, d) -> a || (b && (c || d)));
        shape("A&(B&(C&(D)))", (a, b, c, d) -> a && b && c && d);
        shape("A|B&(C|D&(A|B&(C|D&(A|B))))", (a, b, c, d) -> a || (b && (c || (d && (a || (b && (c || (d && (a || b)))))))));
        shape("((A&B)&(C|D))|!(A|(C&D))", (a, b, c, d) -> (a && b && (c || d)) || !(a || (c && d)));
        shape("A|B&(A|B&(A|B&(A|B&(C&D))))", (a, b, c, d) -> a || (b && c && d));
    }

    /** What one clause comes to is nothing to the next. */
    private static void severalClauses() {
        shape("A&(B|C);suit 0 D", (a, b, c, d) -> a && (b || c));
        shape("A;jar 9 A&(B&C);suit 9 A&B&C", (a, b, c, d) -> a);
        shape("A|B;jar 9 C&(A|B);suit 9 (A|B)&C&!D|D&(C&(B|A))", (a, b, c, d) -> a || b);
    }
}
