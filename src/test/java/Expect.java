/** Counts the answers that are not as due. */
final class Expect {
    private static int checks, wrong;

    private Expect() {
    }

    static void due(String call, long got, long want) {
        checks++;
        if (got == want) return;
        wrong++;
        System.out.println(call + " answered " + got + ", due is " + want);
    }

    /** Feeds a text to an object and asks for its valley. */
    static int valley(NamingElders x, String text) {
        for (int i = 0; i < text.length(); i++) {
            due("feed of a sign of " + text, x.feed(text.charAt(i)), i + 1);
        }
        return x.valley();
    }

    static void finish(String test) {
        System.out.println(test + ": " + checks + " checks, " + wrong + " wrong");
        if (wrong != 0) System.exit(1);
    }
}
