import java.util.function.BiFunction;
import java.util.function.Consumer;
import java.util.function.Function;

/** A small land with something of everything, and what can be asked of it: to see that a refused call changes nothing. */
final class Land {
    static final int NONE = UtilityBoard.NONE;
    static final int LOW = Integer.MIN_VALUE;
    static final int HIGH = Integer.MAX_VALUE;

    /** Twenty bytes that make an ORDER of three CLAUSES. */
    static final String TAPE = "b(k=1);p3(q=2);x0.00";

    private Land() {
    }

    /**
     * WEEK 2. CLOTHS 0 and 1; DRAWING 0 (3 JOINTS, 2 STICKS, 2 LOADS), 1; THINGS 0 (coat, 3 PIECES), 1 (chair),
     * 2 (other); MAKERS 0 (NAMED) and 1; PERSONS 0 and 1; ORDERS 0 (5 CLAUSES) and 1; DOCKETS 0 (closed) to 3;
     * twenty bytes on the tape.
     */
    static UtilityBoard make() {
        UtilityBoard b = new UtilityBoard();
        b.cloth(209, 100, 72);
        b.cloth(310, 7, 5);
        b.drawing(3);
        b.stick(0, 0, 1, 0);
        b.stick(0, 1, 2, 1);
        b.load(0, 2, 10);
        b.load(0, 1, 20);
        b.drawing(2);
        b.thing(0, 0, 3, 108);
        b.thing(1, 0, 2, 40);
        b.thing(2, NONE, 9, 1);
        b.piece(0, 10, 20);
        b.piece(0, 30, 20);
        b.piece(0, 10, 30);
        b.maker(2, 50, 10, 4, 40);
        b.maker(1, 80, 20, 5, 15);
        b.named(0, true);
        b.yards(0, 0, 100);
        b.yards(1, 1, 7);
        b.person(200);
        b.person(900);
        Due.order(b, 0, 499, "m(t=2);p2(k=0);c60(k=0);g5(w=w);d10(w=w)");
        Due.order(b, 0, 499, "b(h=20&k=2)");
        b.makes(0, 0, 4, true);
        b.makes(0, 0, 3, false);
        b.makes(1, 1, 6, false);
        b.price(0, 80);
        b.price(2, 9);
        b.goes();
        b.goes();
        b.makes(0, 2, 5, false);
        b.docket(0, 0, 1, 5);
        b.docket(1, 0, 0, 5);
        b.docket(1, 2, 2, 9);
        b.buys(0, 0, true);
        b.docket(0, 0, 2, 7);
        b.seen(0, 1, 9);
        b.seen(2, 2, 1);
        b.rubbed(0, 4500, true);
        b.rubbed(0, 4600, false);
        b.rubbed(1, 1, true);
        Due.feed(b, TAPE.chars().toArray());
        return b;
    }

    /** All that can be asked without the tape, in some two hundred calls. */
    static String state(UtilityBoard b) {
        StringBuilder s = new StringBuilder();
        for (int what = 0; what < 10; what++) {
            s.append(b.count(what)).append(' ');
        }
        for (int i = 0; i < 4; i++) {
            s.append(b.count(20 + i)).append(' ').append(b.count(100 + i)).append(' ').append(b.count(200 + i));
            s.append(" look ").append(b.look(i, 0)).append(' ').append(b.look(i, 1));
            for (int what = 0; what < 4; what++) {
                s.append(' ').append(b.look(100 + i, what));
            }
            s.append(" first ").append(b.first(0, i)).append(' ').append(b.first(2, i));
            s.append(" waits ").append(b.waits(i, 1)).append('\n');
        }
        for (int x = 0; x < 3; x++) {
            s.append("thing ").append(b.falsely(x)).append(' ').append(b.gone(x, 1));
            for (int m = NONE; m < 2; m++) {
                for (int which = 0; which < 6; which++) {
                    int of = which == 2 ? NONE : x;
                    int by = which == 2 ? NONE : m;
                    s.append(' ').append(b.number(which, of, by, 2, 2)).append(' ').append(b.number(which, of, by, 9, 1));
                }
                s.append(' ').append(b.why(x, m, 0)).append(' ').append(b.why(x, m, 1)).append(' ').append(b.loses(m, x));
            }
            s.append('\n');
        }
        for (int what = NONE; what < 4; what++) {
            s.append("drawn ").append(b.cheapest(0, what)).append(' ').append(b.cheapest(1, what));
            s.append(" laid ").append(b.least(0, 40, what)).append(" beside ").append(b.beside(what)).append('\n');
        }
        s.append(b.bears(0)).append(' ').append(b.bears(1)).append(' ').append(b.isTrue(0, 2)).append(' ');
        s.append(b.isTrue(1, 2)).append(' ').append(b.isTrue(0, 1)).append(' ').append(b.needs(3, 3, 90)).append(' ');
        return s.append(b.fewest(3, 50, NONE)).append('\n').toString();
    }

    /** What is on the tape, as far as an ORDER tells it. */
    static String tape(UtilityBoard b) {
        int bytes = b.count(10);
        int orders = b.count(5);
        String read = bytes + " on the tape, ORDER " + b.order(0, 499, bytes);
        return read + " of " + b.count(20 + orders) + " " + b.number(0, 1, NONE, 2, 2);
    }

    static void answer(String call, Object got, Object want) {
        Due.due(call + ": " + got + " or as due: " + want + ", which", want.equals(got), true);
    }

    /** The call is answered so and changes nothing, the tape too. */
    static void refused(Object want, String call, Function<UtilityBoard, Object> asked) {
        refusedAfter(b -> { }, want, call, asked);
    }

    static void refusedAfter(Consumer<UtilityBoard> before, Object want, String call, Function<UtilityBoard, Object> asked) {
        UtilityBoard b = make();
        UtilityBoard same = make();
        before.accept(b);
        before.accept(same);
        answer(call, asked.apply(b), want);
        answer("the land after " + call, state(b), state(same));
        answer("the tape after " + call, tape(b), tape(same));
    }

    /** The call is answered so and changes nothing but the tape, which is empty then. */
    static void emptied(Object want, String call, Function<UtilityBoard, Object> asked) {
        UtilityBoard b = make();
        UtilityBoard same = make();
        answer(call, asked.apply(b), want);
        answer("the tape after " + call, b.count(10), 0);
        answer("the land after " + call, state(b), state(same));
    }

    /** From low to high it is taken; below and above, and far from there, it is refused and changes nothing. */
    static void range(String what, int low, int high, Object refusal, BiFunction<UtilityBoard, Integer, Object> call) {
        int[] wrong = {LOW, low - 1, high + 1, HIGH, low - 256, high + 65536};
        for (int v : wrong) {
            refused(refusal, what + " " + v, b -> call.apply(b, v));
        }
        for (int v : new int[] {low, high}) {
            Object got = call.apply(make(), v);
            Due.due(what + " " + v + " is taken, not " + got, got.equals(refusal), false);
        }
    }
}
