import java.util.Random;

/** Texts of valleys, most without a fault. */
final class PlainText {
    private static final String SIGNS = "pkvxla<=>0123456789 ;|&!()suitjarlearn";

    private PlainText() {
    }

    static String any(Random random, int length) {
        StringBuilder text = new StringBuilder();
        do {
            if (text.length() > 0) text.append(';');
            clause(random, text);
        } while (text.length() < length);
        if (text.length() > 100) text.setLength(100);
        if (random.nextInt(4) == 0) spoil(random, text);
        return text.toString();
    }

    private static void spoil(Random random, StringBuilder text) {
        int at = random.nextInt(text.length());
        char sign = random.nextInt(20) == 0 ? (char) random.nextInt(128) : SIGNS.charAt(random.nextInt(SIGNS.length()));
        switch (random.nextInt(4)) {
            case 0:
                text.setCharAt(at, sign);
                break;
            case 1:
                text.deleteCharAt(at);
                break;
            case 2:
                text.insert(at, sign);
                break;
            default:
                text.setLength(at);
        }
        if (text.length() > 100) text.setLength(100);
    }

    private static void clause(Random random, StringBuilder text) {
        int which = random.nextInt(5);
        text.append(which == 0 ? "learn " : which < 4 ? "suit " : "jar ");
        text.append(number(random, which == 0 ? 9 : 30));
        if (which > 0) e(random, text.append(' '), 0);
    }

    private static String number(Random random, int top) {
        int n = random.nextInt(top);
        return n < 10 && random.nextInt(8) == 0 ? "0" + n : "" + n;
    }

    private static void e(Random random, StringBuilder text, int depth) {
        f(random, text, depth);
        while (random.nextInt(3) == 0) {
            text.append(random.nextBoolean() ? '|' : '&');
            f(random, text, depth);
        }
    }

    private static void f(Random random, StringBuilder text, int depth) {
        // Now and then one is within more others than may be.
        int which = depth < 4 || random.nextInt(10) == 0 ? random.nextInt(5) : 4;
        if (which == 0) {
            f(random, text.append('!'), depth + 1);
        } else if (which == 1) {
            e(random, text.append('('), depth + 1);
            text.append(')');
        } else {
            int letter = random.nextInt(6);
            int[] tops = {6, 7, 10, 12, 10, 10};
            text.append("pkvxla".charAt(letter)).append("<=>".charAt(random.nextInt(3))).append(number(random, tops[letter]));
        }
    }
}
