import java.util.Random;

/** The fault of many texts, the same ones each time, against a pattern. */
public final class FaultTest {
    public static void main(String[] args) {
        Random random = new Random(1);
        for (int i = 0; i < 30000; i++) {
            check(PlainText.any(random, 1 + random.nextInt(90)));
        }
        Expect.finish("FaultTest");
    }

    private static void check(String text) {
        NamingElders x = new NamingElders();
        for (int i = 0; i < text.length(); i++) {
            x.feed(text.charAt(i));
        }
        int fault = PlainValley.fault(text);
        Expect.due("valley of " + text, x.valley(), fault < 0 ? 0 : -10 - fault);
    }
}
