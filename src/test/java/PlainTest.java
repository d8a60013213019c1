import java.lang.reflect.Method;
import java.util.ArrayList;
import java.util.HashMap;
import java.util.List;
import java.util.Map;
import java.util.Random;

/** Many runs of calls, the same ones each time, on NamingElders and on PlainModel: all answers are the same. */
public final class PlainTest {
    private static final int RUNS = 400, CALLS = 512;
    private static final Map<String, Method> OURS = new HashMap<>(), PLAIN = new HashMap<>();
    /** The calls, those that tell most more often. */
    private static final String[] NAMES = ("child of of of elder elder fits fits fits know know basket basket basket take take take set set "
        + "forget forget bar row row told told told pass pass on on on teach teach teach hear hear hear can can odds odds mean "
        + "plan plan plan plan ends ends book looked judge judge image undo act act trace taken count tape item item read shift "
        + "TEXT TEXT").split(" ");

    private final Random random;
    private final NamingElders ours = new NamingElders();
    private final PlainModel plain = new PlainModel();
    private final List<String> calls = new ArrayList<>();

    private PlainTest(long seed) {
        random = new Random(seed);
    }

    public static void main(String[] args) throws Exception {
        for (Method m : PlainModel.class.getMethods()) {
            if (m.getDeclaringClass() != PlainModel.class) continue;
            PLAIN.put(m.getName(), m);
            OURS.put(m.getName(), NamingElders.class.getMethod(m.getName(), m.getParameterTypes()));
        }
        for (int run = 0; run < RUNS; run++) {
            new PlainTest(run).run(run);
        }
        Expect.finish("PlainTest");
    }

    private void run(int run) throws Exception {
        int kids = random.nextInt(8);
        if (run % 40 == 39) {
            // An old one, whose calls go beyond the last Sunday.
            call("child", 0, 3, 0);
            call("child", 4, 3, 0);
            for (int i = 0; i < 166; i++) {
                call("pass", 60);
            }
            kids -= 2;
        }
        for (int i = 0; i < kids; i++) {
            call("child", random.nextInt(7), random.nextInt(10), random.nextInt(4096));
            if (random.nextInt(3) > 0) call("basket", i, random.nextInt(6));
        }
        for (int e = 0; e < 6; e++) {
            if (random.nextBoolean()) call("set", e, 0, random.nextInt(10));
        }
        text();
        while (calls.size() < CALLS) {
            any();
        }
    }

    private void any() throws Exception {
        String name = NAMES[random.nextInt(NAMES.length)];
        switch (name) {
            case "TEXT":
                if (random.nextInt(4) == 0) text();
                break;
            case "hear":
                hear();
                break;
            case "plan":
                int what = random.nextInt(20) == 0 ? random.nextInt(7) - 2 : random.nextInt(4);
                call("plan", what, what == 1 ? number(6) * 10 + number(6) : number(6));
                break;
            case "item":
                call("item", number(6), random.nextInt(10), random.nextLong() >> random.nextInt(64));
                break;
            case "tape":
                call("tape", number(6), random.nextInt(3) == 0 ? random.nextInt(8) - 2 : 4, random.nextInt(12) - 1);
                break;
            case "act":
                call("act", number(6), number(3), random.nextInt() >> random.nextInt(32));
                break;
            case "shift":
                call("shift", number(6), number(6), number(6), number(6), number(6));
                break;
            default:
                Object[] args = new Object[OURS.get(name).getParameterCount()];
                for (int i = 0; i < args.length; i++) {
                    args[i] = argument(name, i);
                }
                call(name, args);
        }
    }

    /** Mostly one of 0 .. count - 1. */
    private int number(int count) {
        int odd = random.nextInt(40);
        if (odd == 0) return -1;
        if (odd == 1) return count;
        if (odd == 2) return random.nextInt();
        return random.nextInt(count);
    }

    private int argument(String name, int i) {
        switch (name + i) {
            case "child0":
            case "taken1": return number(7);
            case "child1":
            case "row2": return number(10);
            case "child2":
            case "know1":
            case "bar0":
                return random.nextInt(2) == 0 ? number(4096) : number(4096) & random.nextInt(4096) & random.nextInt(4096);
            case "of1": return random.nextInt(3) == 0 ? number(16) : random.nextBoolean() ? 10 + number(6) : 5 + number(2);
            case "elder1": return random.nextInt(4) == 0 ? number(5) : 4;
            case "fits1":
            case "teach2":
            case "book1": return number(13) - (name.equals("book") ? 1 : 0);
            case "set1":
            case "can1":
            case "odds2":
            case "mean1":
            case "ends0": return number(2);
            case "set2": return random.nextInt(3) == 0 ? number(10) : number(2);
            case "row1": return number(4);
            case "told0": return random.nextInt(3) == 0 ? number(16) : random.nextInt(5);
            case "pass0": return random.nextInt(4) == 0 ? number(61) : number(3);
            case "on0":
            case "mean0": return random.nextInt(2) == 0 ? number(61) : number(8);
            case "on1": return random.nextInt(3) * 10 + number(6);
            case "basket1": return number(7) - 1;
            case "trace0": return number(8);
            case "count0": return number(7);
            default: return number(6);
        }
    }

    /** What a child says now is heard, or something else. */
    private void hear() throws Exception {
        int child = number(6), elder = number(6), word = number(13) - 1;
        if (random.nextInt(12) == 0) child = -1;
        if (random.nextInt(3) > 0) {
            int said = plain.of(child, 10 + elder);
            word = said == -5 ? -1 : said;
        }
        call("hear", child, elder, word);
    }

    private void text() throws Exception {
        String text = PlainText.any(random, 12 + random.nextInt(50));
        for (int i = 0; i < text.length() && calls.size() < CALLS; i++) {
            call("feed", (int) text.charAt(i));
        }
        if (random.nextInt(10) > 0 && calls.size() < CALLS) call("valley");
    }

    private void call(String name, Object... args) throws Exception {
        StringBuilder told = new StringBuilder(name).append("(");
        for (Object arg : args) {
            told.append(told.charAt(told.length() - 1) == '(' ? "" : ", ").append(arg);
        }
        calls.add(told.append(")").toString());
        Number got = (Number) OURS.get(name).invoke(ours, args), want = (Number) PLAIN.get(name).invoke(plain, args);
        if (got.longValue() != want.longValue()) System.out.println(calls);
        Expect.due(told.toString(), got.longValue(), want.longValue());
    }
}
