import java.util.HashMap;
import java.util.Map;
import java.util.regex.Matcher;
import java.util.regex.Pattern;

/** Valleys by a pattern and by texts cut apart: nothing here is as NamingElders does it. */
final class PlainValley {
    private static final Pattern VALLEY = pattern();
    private static final Map<String, PlainValley> READ = new HashMap<>();

    /** Whether an E holds. */
    private interface Test {
        boolean holds(Map<Character, Integer> values);
    }

    final int learn;
    private final int[] weights;
    private final Test[] tests;

    private PlainValley(String text) {
        String[] clauses = text.split(";");
        weights = new int[clauses.length];
        tests = new Test[clauses.length];
        int last = 0;
        for (int i = 0; i < clauses.length; i++) {
            String[] parts = clauses[i].split(" ");
            int n = Integer.parseInt(parts[1]);
            if (parts[0].equals("learn")) {
                last = n;
                tests[i] = values -> false;
            } else {
                weights[i] = parts[0].equals("suit") ? n : -n;
                tests[i] = read(parts[2]);
            }
        }
        learn = last;
    }

    static PlainValley of(String text) {
        return READ.computeIfAbsent(text, PlainValley::new);
    }

    int weight(Map<Character, Integer> values) {
        int weight = 0;
        for (int i = 0; i < tests.length; i++) {
            if (tests[i].holds(values)) weight += weights[i];
        }
        return weight;
    }

    /** The FAULT of a text; -1: it is a valley. */
    static int fault(String text) {
        if (VALLEY.matcher(text).matches()) return -1;
        for (int place = 0; place < text.length(); place++) {
            if (!begins(text.substring(0, place + 1))) return place;
        }
        return text.length();
    }

    /** Whether a valley begins so: the pattern got as far as the text's end, and might have gone on. */
    private static boolean begins(String text) {
        Matcher matcher = VALLEY.matcher(text);
        return matcher.matches() || matcher.hitEnd();
    }

    private static Pattern pattern() {
        String f = "[pkvxla][<=>]\\d\\d?";
        for (int depth = 0; depth < 4; depth++) {
            f = "(?:[pkvxla][<=>]\\d\\d?|!" + f + "|\\(" + f + "(?:[|&]" + f + ")*\\))";
        }
        String clause = "(?:(?:suit|jar) \\d\\d? " + f + "(?:[|&]" + f + ")*|learn \\d\\d?)";
        return Pattern.compile(clause + "(?:;" + clause + "){0,9}");
    }

    private static Test read(String e) {
        int cut = outside(e, '|');
        if (cut >= 0) {
            Test left = read(e.substring(0, cut)), right = read(e.substring(cut + 1));
            return values -> left.holds(values) || right.holds(values);
        }
        cut = outside(e, '&');
        if (cut >= 0) {
            Test left = read(e.substring(0, cut)), right = read(e.substring(cut + 1));
            return values -> left.holds(values) && right.holds(values);
        }
        if (e.charAt(0) == '!') {
            Test other = read(e.substring(1));
            return values -> !other.holds(values);
        }
        if (e.charAt(0) == '(') return read(e.substring(1, e.length() - 1));
        char letter = e.charAt(0), sign = e.charAt(1);
        int n = Integer.parseInt(e.substring(2));
        return values -> {
            int value = values.get(letter);
            return sign == '<' ? value < n : sign == '=' ? value == n : value > n;
        };
    }

    /** The first place of a sign that stands in no brackets. */
    private static int outside(String e, char sign) {
        int depth = 0;
        for (int i = 0; i < e.length(); i++) {
            if (e.charAt(i) == '(') depth++;
            if (e.charAt(i) == ')') depth--;
            if (depth == 0 && e.charAt(i) == sign) return i;
        }
        return -1;
    }
}
