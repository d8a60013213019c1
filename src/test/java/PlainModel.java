import java.util.ArrayList;
import java.util.HashMap;
import java.util.List;
import java.util.Map;

/** The document as its words go, by trying out all there is: what NamingElders is compared with. */
public final class PlainModel {
    private static final int NONE = -1, BAD = -2, STATE = -3, FULL = -4, ABSENT = -5;
    private static final int NOTHING = -11, CAST = -12, PLACE = -13, SIZE = -14;
    private static final long NO = Long.MIN_VALUE;

    private static final class Elder {
        int look = 5, name = ABSENT, by = ABSENT, hidden;
    }

    private static final class Kid {
        int kind, v, knows, age, basket = ABSENT;
        int[] row = new int[4];
    }

    private static final class World {
        List<Elder> elders = new ArrayList<>();
        List<Kid> kids = new ArrayList<>();
        List<int[]> heard = new ArrayList<>(), plan = new ArrayList<>(), book = new ArrayList<>();
        int barred, sunday;
        String valley = "learn 0";

        World copy() {
            World w = new World();
            for (Elder e : elders) {
                Elder f = new Elder();
                f.look = e.look;
                f.name = e.name;
                f.by = e.by;
                f.hidden = e.hidden;
                w.elders.add(f);
            }
            for (Kid k : kids) {
                Kid l = new Kid();
                l.kind = k.kind;
                l.v = k.v;
                l.knows = k.knows;
                l.age = k.age;
                l.basket = k.basket;
                l.row = k.row.clone();
                w.kids.add(l);
            }
            w.heard.addAll(heard);
            w.plan.addAll(plan);
            w.book.addAll(book);
            w.barred = barred;
            w.sunday = sunday;
            w.valley = valley;
            return w;
        }

        int named() {
            int n = 0;
            for (Elder e : elders) {
                n += e.name == ABSENT ? 0 : 1;
            }
            return n;
        }

        int used() {
            int used = barred;
            for (int word = 0; word < 12; word++) {
                for (Elder e : elders) {
                    if (e.name == word) used |= 1 << word;
                }
            }
            return used;
        }

        int fits(int child, int word, int elder) {
            return fits(kids.get(child).kind, child, word, elder);
        }

        private int fits(int kind, int child, int word, int elder) {
            Kid kid = kids.get(child);
            switch (kind) {
                case 0: return sum(child, word, elder);
                case 1: return fits(0, child, word, elder) + (word < 6 ? kid.v : 0);
                case 2: return (int) (fits(0, child, word, elder) / 2.0);
                case 3: return fits(0, child, word, elder) - elders.get(elder).look - elders.get(elder).look;
                case 4: return kid.age < kid.v ? 0 : fits(1, child, word, elder);
                case 5: return 0 - fits(2, child, word, elder);
                default: return fits(3, child, word, elder) + kid.row[word % 4];
            }
        }

        private int sum(int child, int word, int elder) {
            Kid kid = kids.get(child);
            Map<Character, Integer> values = new HashMap<>();
            values.put('p', child);
            values.put('k', kid.kind);
            values.put('v', kid.v);
            values.put('x', word);
            values.put('l', elders.get(elder).look);
            values.put('a', kid.age % 10);
            return elders.get(elder).look + PlainValley.of(valley).weight(values);
        }

        int says(int child, int elder) {
            Elder e = elders.get(elder);
            if (e.name != ABSENT || e.hidden == 1) return ABSENT;
            int best = ABSENT;
            for (int word = 0; word < 12; word++) {
                if ((kids.get(child).knows & 1 << word) == 0 || (used() & 1 << word) != 0) continue;
                int fits = fits(child, word, elder);
                if (fits > 0 && (best == ABSENT || fits > fits(child, best, elder))) best = word;
            }
            return best;
        }

        int take(int child, int elder) {
            int word = says(child, elder);
            if (word == ABSENT) return ABSENT;
            elders.get(elder).name = word;
            elders.get(elder).by = child;
            return word;
        }

        void pass(int n, int oldest) {
            int learn = PlainValley.of(valley).learn;
            for (int i = 0; i < n; i++) {
                for (int c = 0; c < kids.size(); c++) {
                    if (kids.get(c).basket != ABSENT) take(c, kids.get(c).basket);
                }
                for (int c = 0; c < kids.size(); c++) {
                    Kid kid = kids.get(c);
                    kid.age = Math.min(kid.age + 1, oldest);
                    if (learn > 0 && kid.age % learn == 0) kid.knows |= 1 << (kid.age + c) % 12;
                }
                sunday++;
            }
        }

        boolean heardIsSo(int child) {
            for (int[] row : heard) {
                if (row[0] == child && says(child, row[1]) != row[2]) return false;
            }
            return true;
        }
    }

    private World now = new World();
    private World image;
    private String text = "";
    private int valleys;
    private final List<Integer> trace = new ArrayList<>();
    private final long[][] tapes = new long[6][];
    private final int[] sorts = new int[6];
    private int actor;

    public PlainModel() {
        for (int e = 0; e < 6; e++) {
            now.elders.add(new Elder());
        }
    }

    private World after(int n) {
        World w = now.copy();
        w.pass(n, Integer.MAX_VALUE);
        return w;
    }

    private boolean noChild(int child) {
        return child < 0 || child >= now.kids.size();
    }

    private static boolean out(int n, int top) {
        return n < 0 || n > top;
    }

    public int child(int kind, int v, int knows) {
        if (out(kind, 6)) return NONE;
        if (out(v, 9) || out(knows, 4095)) return BAD;
        if (now.kids.size() == 6) return FULL;
        Kid kid = new Kid();
        kid.kind = kind;
        kid.v = v;
        kid.knows = knows;
        now.kids.add(kid);
        return now.kids.size() - 1;
    }

    public int of(int child, int what) {
        if (noChild(child)) return NONE;
        Kid kid = now.kids.get(child);
        if (what == 0) return kid.kind;
        if (what == 1) return kid.v;
        if (what == 2) return kid.knows;
        if (what == 3) return kid.age;
        if (what == 4) return kid.basket;
        if (what == 5 || what == 6) return knew(child, what);
        return what >= 10 && what <= 15 ? now.says(child, what - 10) : NONE;
    }

    private int knew(int child, int what) {
        World w = now.copy();
        // What fits does not hang on what it knows: so each row's fits are looked up once for all sets.
        List<int[]> fits = new ArrayList<>();
        for (int[] row : w.heard) {
            int[] f = new int[12];
            for (int word = 0; word < 12; word++) {
                f[word] = row[0] == child ? w.fits(child, word, row[1]) : 0;
            }
            fits.add(f);
        }
        int many = 0, least = ABSENT, used = w.used();
        for (int set = 4095; set >= 0; set--) {
            boolean so = true;
            for (int i = 0; i < w.heard.size() && so; i++) {
                int[] row = w.heard.get(i), f = fits.get(i);
                if (row[0] != child) continue;
                int best = ABSENT;
                boolean deaf = w.elders.get(row[1]).name != ABSENT || w.elders.get(row[1]).hidden == 1;
                for (int word = 11; word >= 0 && !deaf; word--) {
                    boolean may = (set & ~used & 1 << word) != 0 && f[word] > 0;
                    if (may && (best == ABSENT || f[word] >= f[best])) best = word;
                }
                so = best == row[2];
            }
            if (so) {
                many++;
                least = set;
            }
        }
        return what == 5 ? many : least;
    }

    public int elder(int elder, int what) {
        if (out(elder, 5) || out(what, 4)) return NONE;
        Elder e = now.elders.get(elder);
        if (what == 0) return e.look;
        if (what == 1) return e.name;
        if (what == 2) return e.by;
        if (what == 3) return e.hidden;
        for (int n = 0; n <= 60; n++) {
            if (after(n).elders.get(elder).name != ABSENT) return n;
        }
        return ABSENT;
    }

    public int fits(int child, int word, int elder) {
        return noChild(child) || out(word, 11) || out(elder, 5) ? -10001 : now.fits(child, word, elder);
    }

    public int know(int child, int words) {
        if (noChild(child)) return NONE;
        if (out(words, 4095)) return BAD;
        int was = now.kids.get(child).knows;
        now.kids.get(child).knows = words;
        return was;
    }

    public int basket(int child, int elder) {
        if (noChild(child) || elder < -1 || elder > 5) return NONE;
        int had = now.kids.get(child).basket;
        now.kids.get(child).basket = elder == -1 ? ABSENT : elder;
        return had;
    }

    public int take(int child, int elder) {
        return noChild(child) || out(elder, 5) ? NONE : now.take(child, elder);
    }

    public int set(int elder, int what, int n) {
        if (out(elder, 5) || out(what, 1)) return NONE;
        Elder e = now.elders.get(elder);
        if (what == 0) {
            if (out(n, 9)) return BAD;
            int was = e.look;
            e.look = n;
            return was;
        }
        if (out(n, 1)) return BAD;
        int was = e.hidden;
        e.hidden = n;
        return was;
    }

    public int forget(int elder) {
        if (out(elder, 5)) return NONE;
        int had = now.elders.get(elder).name;
        now.elders.get(elder).name = ABSENT;
        now.elders.get(elder).by = ABSENT;
        return had;
    }

    public int bar(int words) {
        if (out(words, 4095)) return BAD;
        int was = now.barred;
        now.barred = words;
        return was;
    }

    public int row(int child, int part, int n) {
        if (noChild(child) || out(part, 3)) return NONE;
        if (out(n, 9)) return BAD;
        if (now.kids.get(child).kind != 6) return STATE;
        int was = now.kids.get(child).row[part];
        now.kids.get(child).row[part] = n;
        return was;
    }

    public int feed(int sign) {
        if (out(sign, 127)) return BAD;
        if (text.length() == 100) return FULL;
        text += (char) sign;
        return text.length();
    }

    public int valley() {
        if (valleys == 6) return FULL;
        String fed = text;
        text = "";
        int fault = PlainValley.fault(fed);
        if (fault >= 0) return -10 - fault;
        now.valley = fed;
        return valleys++;
    }

    public int told(int what) {
        if (what == 0) return now.sunday;
        if (what == 1) return PlainValley.of(now.valley).learn;
        if (what == 2) return now.barred;
        if (what == 3) return now.used();
        if (what == 4) return now.named();
        if (what != 5 && noChild(what - 10)) return NONE;
        int[] best = new int[7];
        best[6] = -1;
        round(new int[6], 0, best);
        return what == 5 ? best[6] : best[what - 10];
    }

    private void round(int[] way, int child, int[] best) {
        if (child == now.kids.size()) {
            World w = now.copy();
            for (int c = 0; c < child; c++) {
                w.kids.get(c).basket = way[c];
            }
            w.pass(1, Integer.MAX_VALUE);
            if (w.named() <= best[6]) return;
            System.arraycopy(way, 0, best, 0, 6);
            best[6] = w.named();
            return;
        }
        for (int e = 0; e < 6; e++) {
            boolean free = true;
            for (int c = 0; c < child; c++) {
                free &= way[c] != e;
            }
            way[child] = e;
            if (free) round(way, child + 1, best);
        }
    }

    public int pass(int n) {
        if (out(n, 60)) return BAD;
        if (now.sunday + n > 9999) return STATE;
        now.pass(n, 9999);
        return now.sunday;
    }

    public int on(int n, int what) {
        boolean elder = what >= 10 && what <= 15, child = !noChild(what - 20);
        if (what != 0 && !elder && !child) return NONE;
        if (out(n, 60)) return BAD;
        World w = after(n);
        return elder ? w.elders.get(what - 10).name : child ? w.kids.get(what - 20).knows : w.named();
    }

    public int teach(int child, int elder, int word) {
        if (noChild(child) || out(elder, 5) || out(word, 11)) return NONE;
        World w = now.copy();
        int knows = w.kids.get(child).knows, best = ABSENT;
        for (int set = 0; set < 4096; set++) {
            // Sets of more than three words are left out: the fewest are asked for, and it would take long.
            if ((set & knows) != 0 || Integer.bitCount(set) > 3) continue;
            if (best != ABSENT && Integer.bitCount(best) <= Integer.bitCount(set)) continue;
            w.kids.get(child).knows = knows | set;
            if (w.says(child, elder) == word) best = set;
        }
        return best;
    }

    public int hear(int child, int elder, int word) {
        if (child == -1) {
            now.heard.clear();
            return 0;
        }
        if (noChild(child) || out(elder, 5) || word < -1 || word > 11) return NONE;
        if (now.heard.size() == 5) return FULL;
        now.heard.add(new int[] {child, elder, word == -1 ? ABSENT : word});
        return now.heard.size();
    }

    public int can(int child, int what) {
        if (noChild(child) || out(what, 1)) return NONE;
        int many = 0, least = ABSENT;
        World w = now.copy();
        for (int v = 9; v >= 0; v--) {
            w.kids.get(child).v = v;
            if (w.heardIsSo(child)) {
                many++;
                least = v;
            }
        }
        return what == 0 ? many : least;
    }

    public long odds(int child, int elder, int part) {
        if (noChild(child) || out(elder, 5) || out(part, 1)) return NO;
        int other = 0;
        for (int word = 0; word < 12; word++) {
            World w = now.copy();
            w.barred |= 1 << word;
            if (w.says(child, elder) != now.says(child, elder)) other++;
        }
        return lowest(other, 12, part);
    }

    private static int lowest(int above, int below, int part) {
        for (int d = 2; d <= below; d++) {
            while (above % d == 0 && below % d == 0) {
                above /= d;
                below /= d;
            }
        }
        return part == 0 ? above : below;
    }

    public long mean(int n, int part) {
        if (out(n, 60) || out(part, 1) || now.kids.isEmpty()) return NO;
        int known = 0;
        for (Kid kid : after(n).kids) {
            known += Integer.bitCount(kid.knows);
        }
        return lowest(known, now.kids.size(), part);
    }

    public int plan(int what, int n) {
        if (what == -1) {
            now.plan.clear();
            return 0;
        }
        if (out(what, 3)) return NONE;
        if (what == 1 && (n < 0 || noChild(n / 10) || out(n % 10, 5))) return NONE;
        if (what >= 2 && out(n, 5)) return NONE;
        if (now.plan.size() == 10) return FULL;
        now.plan.add(new int[] {what, n});
        return now.plan.size();
    }

    public int ends(int what) {
        if (out(what, 1)) return NONE;
        World w = now.copy();
        for (int[] row : now.plan) {
            if (row[0] == 0) w.pass(1, Integer.MAX_VALUE);
            if (row[0] == 1) w.take(row[1] / 10, row[1] % 10);
            if (row[0] == 2) w.elders.get(row[1]).name = ABSENT;
            if (row[0] == 3) w.elders.get(row[1]).hidden = 1;
        }
        return what == 0 ? w.named() : w.used();
    }

    public int book(int elder, int word) {
        if (elder == -1) {
            now.book.clear();
            return 0;
        }
        if (out(elder, 5) || word < -1 || word > 11) return NONE;
        if (now.book.size() == 8) return FULL;
        now.book.add(new int[] {elder, word == -1 ? ABSENT : word});
        return now.book.size();
    }

    public int looked() {
        for (int i = 0; i < now.book.size(); i++) {
            if (now.elders.get(now.book.get(i)[0]).name != now.book.get(i)[1]) return i;
        }
        return ABSENT;
    }

    public int judge(int tape, int i) {
        if (out(tape, 5)) return NONE;
        if (tapes[tape] == null) return 100;
        if (sorts[tape] != 4) return CAST;
        for (int e = 0; e < 6; e++) {
            long place = (long) i + e;
            if (i < 0 || place >= tapes[tape].length) return 100 + e;
            boolean told = tapes[tape][(int) place] != 0, so = now.elders.get(e).name != ABSENT;
            if (told != so) return e;
        }
        return ABSENT;
    }

    public int image() {
        image = now.copy();
        return now.kids.size();
    }

    public int undo() {
        if (image == null) return STATE;
        now = image.copy();
        return now.kids.size();
    }

    public int act(int child, int act, int x) {
        trace.clear();
        if (noChild(child) || out(act, 2)) return 0;
        actor = child;
        return call(now.kids.get(child).kind, act, x);
    }

    /** The body of a kind, or of the next above that has one, for 0 looks, 1 points, 2 tells. */
    private int call(int kind, int act, int x) {
        int[][] bodies = {{10, 11, 12}, {0, 20, 0}, {30, 0, 0}, {0, 0, 40}, {50, 51, 0}, {0, 0, 60}, {71, 70, 0}};
        int[] above = {0, 0, 0, 0, 1, 2, 3};
        int at = kind;
        while (bodies[at][act] == 0) {
            at = above[at];
        }
        int self = now.kids.get(actor).kind, v = now.kids.get(actor).v, up = above[at];
        trace.add(bodies[at][act]);
        switch (bodies[at][act]) {
            case 10: return x + actor;
            case 11: return call(self, 0, x) - v;
            case 12: return call(self, 1, x) * 2;
            case 20: return call(up, 1, x) ^ 6;
            case 30: return call(up, 0, x * 3);
            case 40: {
                int first = call(up, 2, x);
                return first + call(self, 1, 1);
            }
            case 50: return -call(up, 0, x);
            case 51: return call(up, 1, x + 1);
            case 60: return call(up, 2, x - actor);
            case 70: {
                int first = call(up, 1, x);
                return first + call(up, 0, 2);
            }
            default: return call(up, 0, x) ^ v;
        }
    }

    public int trace(int i) {
        return i < 0 || i >= Math.min(20, trace.size()) ? NONE : trace.get(i);
    }

    public int taken(int child, int k) {
        if (out(k, 6)) return BAD;
        if (noChild(child)) return NOTHING;
        int kind = now.kids.get(child).kind;
        boolean[][] is = new boolean[7][7];
        int[][] under = {{0}, {1, 0}, {2, 0}, {3, 0}, {4, 1, 0}, {5, 2, 0}, {6, 3, 0}};
        for (int a = 0; a < 7; a++) {
            for (int b : under[a]) {
                is[a][b] = true;
            }
        }
        return is[kind][k] ? kind : CAST;
    }

    public int count(int what) {
        int[] counts = {now.kids.size(), valleys, now.heard.size(), now.plan.size(), now.book.size(), text.length(), trace.size()};
        return out(what, 6) ? BAD : counts[what];
    }

    public int tape(int tape, int sort, int n) {
        if (out(tape, 5)) return NONE;
        if (sort == -1) {
            tapes[tape] = null;
            return 1;
        }
        if (out(sort, 4) || n > 60) return BAD;
        if (n < 0) return SIZE;
        tapes[tape] = new long[n];
        sorts[tape] = sort;
        return 1;
    }

    public int item(int tape, int i, long v) {
        if (out(tape, 5)) return NONE;
        if (tapes[tape] == null) return NOTHING;
        if (out(i, tapes[tape].length - 1)) return PLACE;
        int sort = sorts[tape];
        if (sort == 4) {
            tapes[tape][i] = v == 0 ? 0 : 1;
        } else {
            int unused = 64 - (8 << sort);
            tapes[tape][i] = v << unused >> unused;
        }
        return 1;
    }

    public long read(int tape, int i) {
        return out(tape, 5) || tapes[tape] == null || out(i, tapes[tape].length - 1) ? NO : tapes[tape][i];
    }

    public int shift(int tape, int i, int other, int j, int n) {
        if (out(tape, 5) || out(other, 5)) return NONE;
        if (tapes[tape] == null || tapes[other] == null) return NOTHING;
        if (sorts[tape] != sorts[other]) return CAST;
        if (n < 0 || i < 0 || j < 0 || (long) i + n > tapes[tape].length || (long) j + n > tapes[other].length) return PLACE;
        long[] before = tapes[tape].clone();
        for (int k = 0; k < n; k++) {
            tapes[other][j + k] = before[i + k];
        }
        return n;
    }
}
