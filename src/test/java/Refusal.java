import java.util.ArrayList;
import java.util.List;
import java.util.function.Supplier;
import java.util.function.ToIntFunction;

/**
 * A call that is refused leaves no trace: it is made on one of two arcades that were filled alike, and both must look
 * alike behind it, behind what can be undone, and behind the image. Each look has arcades of its own, so that none
 * comes to more than 512 calls.
 */
final class Refusal {
    private static final int LINES_SEEN = 10;

    private Refusal() {
    }

    static void is(Due due, String what, Supplier<ArcadePoles> fill, ToIntFunction<ArcadePoles> call, int answer) {
        ArcadePoles plain = fill.get();
        ArcadePoles asked = fill.get();
        due.is(what, call.applyAsInt(asked), answer);
        same(due, what + ": nothing changes", asked, plain);

        plain = fill.get();
        asked = fill.get();
        call.applyAsInt(asked);
        due.is(what + ": as much is undone", undoAll(asked), undoAll(plain));
        same(due, what + ": what is undone", asked, plain);

        plain = fill.get();
        asked = fill.get();
        call.applyAsInt(asked);
        due.is(what + ": the image", asked.image(false) ? 1 : 0, plain.image(false) ? 1 : 0);
        same(due, what + ": gone back to the image", asked, plain);
    }

    private static int undoAll(ArcadePoles x) {
        int count = 0;
        while (x.undo()) {
            count++;
        }
        return count;
    }

    private static void same(Due due, String what, ArcadePoles got, ArcadePoles want) {
        List<Integer> seen = sight(got);
        List<Integer> wanted = sight(want);
        due.is(what + ", answers", seen.size(), wanted.size());
        for (int i = 0; i < Math.min(seen.size(), wanted.size()); i++) {
            due.is(what + ", answer " + i, seen.get(i), wanted.get(i));
        }
    }

    static List<Integer> sight(ArcadePoles x) {
        List<Integer> seen = new ArrayList<>();
        for (int what = 0; what <= 12; what++) {
            seen.add(x.look(what));
        }
        shopsAndCustomers(x, seen);
        for (int i = Math.max(0, x.look(6) - LINES_SEEN); i < x.look(6); i++) {
            for (int what = 0; what < 5; what++) {
                seen.add(x.book(i, what));
            }
        }
        for (int what = 0; what < 4; what++) {
            seen.add(x.goes(13, what));
            seen.add(x.after(what));
        }
        whatIsTold(x, seen);
        return seen;
    }

    private static void shopsAndCustomers(ArcadePoles x, List<Integer> seen) {
        for (int s = 0; s < x.look(0); s++) {
            for (int what = 0; what <= 7; what++) {
                seen.add(x.of(s, what));
            }
            seen.add(x.of(0, 10 + s));
        }
        for (int c = 0; c < x.look(1); c++) {
            for (int what = 0; what <= 4; what++) {
                seen.add(x.who(c, what));
            }
        }
        for (int of = 10; of <= 50; of += 20) {
            seen.add(x.who(0, of));
        }
    }

    /** What is told for thought, the TAPE's length (from its end on) and the latest FAULT. */
    private static void whatIsTold(ArcadePoles x, List<Integer> seen) {
        seen.add(x.pays(17, 0));
        seen.add(x.pays(60, 1));
        for (int what = 0; what < 2; what++) {
            seen.add(x.served(what));
            seen.add(x.threads(what));
            seen.add(x.earned(what));
            seen.add(x.fault(what));
        }
        seen.add(x.sums(5));
        seen.add(x.sums(ArcadePoles.NONE));
        seen.add(x.lifted());
        seen.add(x.feed(0, 0, 0, 0, 0));
    }

    /** A little of everything: there is what can be undone, an image that is another, a TAPE and a FAULT. */
    static ArcadePoles filled() {
        ArcadePoles x = new ArcadePoles();
        x.shop(20, 10);
        x.shop(5, 7);
        x.customer(100, 3);
        x.customer(50, 9);
        Due.text(x, 0, "buys 900-hour; yields 500 when polite > 4; costs price + nights;");
        Due.text(x, 1, "customer 0 at 0 in 0; customer 1 at 1 in 0; customer 1 at 3 in 1;");
        Due.text(x, 2, "on 0 push 1 0; on 1 stock 0 9; on 1 give 1 20;");
        Due.text(x, 3, "shop 0 by shop 1 4;");
        tellForThought(x);
        x.state(99);
        x.hours(12);
        x.image(true);
        x.hours(2);
        x.act(0, 0, 1);
        x.act(2, 0, 0);
        x.act(3, 1, 8);
        Due.text(x, 0, "buys 1/0;");
        x.feed(1, 2, 3, 4, 5);
        return x;
    }

    private static void tellForThought(ArcadePoles x) {
        x.coin(5);
        x.coin(3);
        x.told(3, 1, 2, 4);
        x.errand(3, 3);
        x.errand(2, 4);
        x.thread(4);
        x.thread(9);
        x.earn(-3);
        x.earn(4);
        x.price(2);
        x.price(3);
        x.price(5);
        x.shutter(9);
        x.shutter(0);
    }
}
