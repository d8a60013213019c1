import java.lang.reflect.Method;
import java.lang.reflect.Modifier;
import java.util.ArrayList;
import java.util.Comparator;
import java.util.List;
import java.util.Random;

/** Calls with numbers of all sizes: none throws, and the same calls give the same answers. */
public final class WildTest {
    private static final int[] EDGES = {Integer.MIN_VALUE, Integer.MIN_VALUE + 1, -11, -6, -2, 12, 13, 15, 16, 20, 25, 59, 60, 61, 99, 100,
        127, 128, 4095, 4096, 9999, 1 << 30, Integer.MAX_VALUE - 5, Integer.MAX_VALUE};

    public static void main(String[] args) throws Exception {
        List<Method> calls = new ArrayList<>();
        for (Method m : NamingElders.class.getDeclaredMethods()) {
            if (Modifier.isPublic(m.getModifiers())) calls.add(m);
        }
        calls.sort(Comparator.comparing(Method::getName));
        Random random = new Random(2);
        for (int run = 0; run < 300; run++) {
            NamingElders x = new NamingElders(), y = new NamingElders();
            Expect.due("a valley in both", Expect.valley(x, "suit 9 !(p=1|x>4);learn 2"), Expect.valley(y, "suit 9 !(p=1|x>4);learn 2"));
            for (int i = 0; i < 450; i++) {
                Method call = calls.get(random.nextInt(calls.size()));
                Object[] with = new Object[call.getParameterCount()];
                for (int k = 0; k < with.length; k++) {
                    with[k] = call.getParameterTypes()[k] == long.class ? (Object) (long) wild(random) : (Object) wild(random);
                }
                Expect.due(call.getName(), ((Number) call.invoke(x, with)).longValue(), ((Number) call.invoke(y, with)).longValue());
            }
        }
        Expect.finish("WildTest");
    }

    private static int wild(Random random) {
        if (random.nextInt(3) > 0) return random.nextInt(8) - 1;
        return random.nextInt(3) == 0 ? random.nextInt() : EDGES[random.nextInt(EDGES.length)];
    }
}
