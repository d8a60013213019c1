import java.util.List;

/** What is asked changes nothing, and is answered twice alike. */
public final class AskedTest {
    private static List<Long> rich, full;

    public static void main(String[] args) {
        rich = Watched.all(Watched.rich());
        full = Watched.all(Watched.full());
        ofChildren();
        ofElders();
        ofSundays();
        ofHeard();
        ofPlans();
        ofTheRest();
        refusedActs();
        Expect.finish("AskedTest");
    }

    private static void asked(String call, Watched.Call made) {
        for (int i = 0; i < 2; i++) {
            NamingElders x = i == 0 ? Watched.rich() : Watched.full();
            long first = made.on(x), second = made.on(x);
            Expect.due(call + " is answered twice alike", second, first);
            Expect.due(call + " changes nothing", Watched.all(x).equals(i == 0 ? rich : full) ? 1 : 0, 1);
        }
    }

    private static void ofChildren() {
        for (int c = 0; c < 3; c++) {
            int child = c;
            for (int w = 0; w < 16; w++) {
                int what = w;
                asked("3: of(" + c + ", " + w + ")", x -> x.of(child, what));
            }
            asked("5: fits of " + c, x -> x.fits(child, 11, 5));
            asked("18: teach " + c, x -> x.teach(child, child + 1, 5));
            asked("32: taken " + c, x -> x.taken(child, 0));
        }
    }

    private static void ofElders() {
        for (int e = 0; e < 6; e++) {
            int elder = e;
            for (int w = 0; w < 5; w++) {
                int what = w;
                asked("4: elder(" + e + ", " + w + ")", x -> x.elder(elder, what));
            }
        }
        for (int w = 0; w < 16; w++) {
            int what = w;
            asked("15: told(" + w + ")", x -> x.told(what));
        }
    }

    private static void ofSundays() {
        for (int sundays : new int[] {0, 1, 60}) {
            asked("17: on " + sundays, x -> x.on(sundays, 0));
            asked("17: on " + sundays + " of an elder", x -> x.on(sundays, 12));
            asked("17: on " + sundays + " of a child", x -> x.on(sundays, 21));
            asked("22: mean of " + sundays, x -> x.mean(sundays, 0));
            asked("22: mean of " + sundays + ", below", x -> x.mean(sundays, 1));
        }
    }

    private static void ofHeard() {
        for (int c = 0; c < 3; c++) {
            int child = c;
            asked("20: can " + c, x -> x.can(child, 0));
            asked("20: can " + c + ", the least", x -> x.can(child, 1));
            asked("21: odds of " + c, x -> x.odds(child, 3, 0));
            asked("21: odds of " + c + ", below", x -> x.odds(child, 3, 1));
        }
    }

    private static void ofPlans() {
        asked("24: ends", x -> x.ends(0));
        asked("24: ends, which", x -> x.ends(1));
        asked("26: looked", x -> x.looked());
    }

    private static void ofTheRest() {
        asked("27: judge", x -> x.judge(4, 0));
        asked("31: trace", x -> x.trace(3));
        for (int w = 0; w < 7; w++) {
            int what = w;
            asked("33: count(" + w + ")", x -> x.count(what));
        }
        asked("36: read", x -> x.read(3, 1));
    }

    /** 0, and no trace then: nothing else is otherwise. */
    private static void refusedActs() {
        int[][] acts = {{-1, 0}, {3, 0}, {6, 2}, {0, -1}, {0, 3}, {Integer.MIN_VALUE, 0}, {0, Integer.MAX_VALUE}, {3, 3}};
        for (int[] a : acts) {
            NamingElders x = Watched.rich(), y = Watched.rich();
            Expect.due("30: there is a trace", x.count(6), 12);
            Expect.due("30: act(" + a[0] + ", " + a[1] + ")", x.act(a[0], a[1], 7), 0);
            Expect.due("30: no trace then", x.count(6), 0);
            Expect.due("30: nothing in it", x.trace(0), -1);
            // The same trace for both again: all else must be the same.
            x.act(2, 1, 9);
            y.act(2, 1, 9);
            Expect.due("30: nothing else changes", Watched.all(x).equals(Watched.all(y)) ? 1 : 0, 1);
        }
    }
}
