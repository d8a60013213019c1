import java.util.ArrayList;
import java.util.List;

/** Objects with something of all that there is, and all that can be asked of one, as a row of answers. */
final class Watched {
    /** A call on an object. */
    interface Call {
        long on(NamingElders x);
    }

    private Watched() {
    }

    /** Three children, a valley, an image that is otherwise, a trace, half a text, tapes of all sorts but one. */
    static NamingElders rich() {
        NamingElders x = new NamingElders();
        x.child(1, 4, 0b000000110010);
        x.child(6, 7, 0b111100001111);
        x.child(4, 2, 0b000011000110);
        Expect.valley(x, "suit 9 x=5|p=1;jar 3 l>5;learn 2");
        x.row(1, 2, 9);
        x.basket(0, 2);
        x.basket(1, 4);
        x.set(1, 0, 9);
        x.set(5, 1, 1);
        x.bar(0b100000000001);
        x.pass(3);
        x.hear(0, 1, 5);
        x.hear(1, 0, -1);
        x.plan(1, 20);
        x.plan(0, 0);
        x.book(2, 5);
        x.image();
        x.take(2, 0);
        x.set(3, 0, 1);
        x.hear(2, 3, 1);
        x.plan(2, 2);
        x.plan(3, 1);
        x.book(3, -1);
        x.book(4, 7);
        for (int tape = 0; tape < 5; tape++) {
            x.tape(tape, tape, 2 + tape);
            x.item(tape, 1, 33 + tape);
        }
        for (char sign : "suit 7 v".toCharArray()) {
            x.feed(sign);
        }
        x.act(1, 2, 5);
        return x;
    }

    /** All that has a most is at it, but for the text; without an image. */
    static NamingElders full() {
        NamingElders x = new NamingElders();
        for (int c = 0; c < 6; c++) {
            x.child(c + 1, c, 1 << c | 1 << 11);
            x.basket(c, 5 - c);
        }
        for (int i = 0; i < 6; i++) {
            Expect.valley(x, "learn " + (9 - i));
        }
        for (int i = 0; i < 5; i++) {
            x.hear(i, i, i);
        }
        for (int i = 0; i < 10; i++) {
            x.plan(1, 10 * (i % 6) + i % 4);
        }
        for (int i = 0; i < 8; i++) {
            x.book(i % 6, -1);
        }
        x.feed('s');
        return x;
    }

    /** All answers; what has no asking call is shown by calls that change it, so the object is used up then. */
    static List<Long> all(NamingElders x) {
        List<Long> row = new ArrayList<>();
        state(x, row);
        for (int tape = 0; tape < 6; tape++) {
            row.add((long) x.judge(tape, 0));
            for (int i = 0; i < 3; i++) {
                row.add(x.read(tape, i));
            }
        }
        for (int i = 0; i < 12; i++) {
            row.add((long) x.trace(i));
        }
        x.feed('=');
        x.feed('4');
        row.add((long) x.valley());
        row.add((long) x.fits(0, 5, 3));
        row.add((long) x.undo());
        state(x, row);
        return row;
    }

    private static void state(NamingElders x, List<Long> row) {
        int kids = x.count(0), fitsOf = kids < 4 ? 3 : 1;
        for (int what = 1; what <= 6; what++) {
            row.add((long) x.count(what));
        }
        row.add((long) kids);
        for (int c = 0; c < kids; c++) {
            for (int what = 0; what < (kids < 4 ? 16 : 7); what++) {
                if (what < 7 || what > 9) row.add((long) x.of(c, what));
            }
            row.add((long) x.can(c, 0));
            row.add((long) x.can(c, 1));
            row.add((long) x.on(3, 20 + c));
            row.add((long) x.told(10 + c));
        }
        for (int c = 0; c < Math.min(kids, fitsOf); c++) {
            for (int word = 0; word < 12; word++) {
                row.add((long) x.fits(c, word, c));
            }
        }
        for (int e = 0; e < 6; e++) {
            for (int what = 0; what < 5; what++) {
                row.add((long) x.elder(e, what));
            }
            row.add((long) x.on(2, 10 + e));
        }
        for (int what = 0; what < 6; what++) {
            row.add((long) x.told(what));
        }
        row.add((long) x.ends(0));
        row.add((long) x.ends(1));
        row.add((long) x.looked());
    }
}
