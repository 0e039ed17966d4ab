/** Each promise of the document by hand: ordinary inputs, the edges that it names, wrong inputs. */
public final class PromisesTest {
    private static final int NONE = UtilityBoard.NONE;
    private static final int LOW = Integer.MIN_VALUE;
    private static final int HIGH = Integer.MAX_VALUE;
    private static final String ALWAYS = "(w=w)";

    public static void main(String[] args) {
        promise1();
        promise2();
        promise3();
        promise4();
        promise5();
        promise6();
        promise7();
        promise8();
        promise9();
        promise10();
        promise11();
        promise12();
        promise13();
        promise14();
        promise15();
        promise16();
        promise17();
        promise18();
        promise19();
        promise20();
        promise20InTheShops();
        promise21();
        promise22();
        promise23();
        promise24();
        promise25();
        promise26();
        promise27();
        promise28();
        promise29();
        promise30();
        promise31();
        promise32();
        promise33();
        promise34();
        promise35();
        promise36();
        promise37();
        promise38();
        promise39();
        promise40();
        Due.finish();
    }

    private static void due(String call, long got, long want) {
        Due.due(call, got, want);
    }

    private static void due(String call, boolean got, boolean want) {
        Due.due(call, got, want);
    }

    /** A CLOTH 0, a coat 0 of it (3 POCKETS, 108 INCHES), another thing 1, a MAKER 0, a PERSON 0. */
    private static UtilityBoard town() {
        UtilityBoard b = new UtilityBoard();
        b.cloth(209, 100, 72);
        b.thing(0, 0, 3, 108);
        b.thing(2, NONE, 0, 1);
        b.maker(2, 50, 10, 4, 40);
        b.person(200);
        return b;
    }

    private static void goesTo(UtilityBoard b, int week) {
        while (b.count(0) < week) {
            b.goes();
        }
    }

    private static void promise1() {
        UtilityBoard b = new UtilityBoard();
        for (int what = 0; what <= 10; what++) {
            due("new count(" + what + ")", b.count(what), 0);
        }
        due("new beside(NONE)", b.beside(NONE), 0);
        due("new check(0)", b.check(0), NONE);
        due("NONE", UtilityBoard.NONE, -1);
    }

    private static void promise2() {
        UtilityBoard b = town();
        Due.order(b, 0, 499, "g7(w>1);g99999(w>3)");
        due("goes to 1", b.goes(), 1);
        due("no points yet", b.look(0, 0), 0);
        due("goes to 2", b.goes(), 2);
        due("points by the new week", b.look(0, 0), 7);
        due("goes to 3", b.goes(), 3);
        due("points again", b.look(0, 0), 14);
        goesTo(b, 12);
        due("points below the most", b.look(0, 0), 14 + 9 * 99999);
        b.goes();
        due("points at most", b.look(0, 0), 1000000);
        goesTo(b, 498);
        due("goes to 499", b.goes(), 499);
        due("goes behind 499", b.goes(), NONE);
        due("it stays 499", b.count(0), 499);
        UtilityBoard c = town();
        c.makes(0, 1, 5, false);
        due("made", c.look(100, 0), 5);
        c.goes();
        due("made in the new week", c.look(100, 0), 0);
    }

    private static void promise3() {
        UtilityBoard b = new UtilityBoard();
        due("cloth(100, 1, 1)", b.cloth(100, 1, 1), 0);
        due("cloth(999, 1000, 10000)", b.cloth(999, 1000, 10000), 1);
        int[][] wrong = {{99, 1, 1}, {1000, 1, 1}, {200, 0, 1}, {200, 1001, 1}, {200, 1, 0}, {200, 1, 10001},
            {100, 5, 5}, {LOW, 1, 1}, {200, HIGH, 1}, {200, 1, LOW}};
        for (int[] w : wrong) {
            due("wrong cloth", b.cloth(w[0], w[1], w[2]), NONE);
        }
        for (int i = 2; i < 20; i++) {
            due("cloth " + i, b.cloth(300 + i, 1, 1), i);
        }
        due("cloth 20", b.cloth(400, 1, 1), NONE);
        due("cloths", b.count(1), 20);
    }

    private static void promise4() {
        UtilityBoard b = new UtilityBoard();
        due("drawing(1)", b.drawing(1), NONE);
        due("drawing(9)", b.drawing(9), NONE);
        due("drawing(LOW)", b.drawing(LOW), NONE);
        for (int i = 0; i < 22; i++) {
            due("drawing " + i, b.drawing(2 + i % 7), i);
        }
        due("drawing 22", b.drawing(2), NONE);
        due("drawings", b.count(2), 22);
    }

    private static void promise5() {
        UtilityBoard b = new UtilityBoard();
        due("no drawing", b.stick(0, 0, 1, 0), NONE);
        b.drawing(3);
        int[][] wrong = {{1, 0, 1, 0}, {-1, 0, 1, 0}, {0, 0, 3, 0}, {0, 3, 0, 0}, {0, -1, 0, 0}, {0, 0, -1, 0},
            {0, 1, 1, 0}, {0, 0, 1, 3}, {0, 0, 1, -1}, {0, HIGH, LOW, 0}};
        for (int[] w : wrong) {
            due("wrong stick", b.stick(w[0], w[1], w[2], w[3]), NONE);
        }
        for (int i = 0; i < 8; i++) {
            due("stick " + i, b.stick(0, i % 2, 2, i % 3), i);
        }
        due("stick 8", b.stick(0, 0, 1, 0), NONE);
    }

    private static void promise6() {
        UtilityBoard b = new UtilityBoard();
        due("no drawing", b.load(0, 1, 1), false);
        b.drawing(3);
        int[][] wrong = {{1, 1, 1}, {-1, 1, 1}, {0, 0, 1}, {0, 3, 1}, {0, -1, 1}, {0, 1, 0}, {0, 1, 501},
            {0, LOW, HIGH}};
        for (int[] w : wrong) {
            due("wrong load", b.load(w[0], w[1], w[2]), false);
        }
        due("it bears none", b.bears(0), 1);
        for (int i = 0; i < 8; i++) {
            due("load " + i, b.load(0, 1 + i % 2, i == 0 ? 1 : 500), true);
        }
        due("load 8", b.load(0, 1, 1), false);
    }

    private static void promise7() {
        UtilityBoard b = new UtilityBoard();
        due("no drawing", b.bears(0), NONE);
        due("no drawing", b.bears(LOW), NONE);
        b.drawing(4);
        b.stick(0, 1, 0, 0);
        b.stick(0, 2, 1, 1);
        b.stick(0, 0, 2, 0);
        due("no load", b.bears(0), 1);
        b.load(0, 1, 20);
        due("two ways of 10 each", b.bears(0), 1);
        b.load(0, 2, 20);
        due("each by itself", b.bears(0), 1);
        b.load(0, 1, 21);
        due("one pound more", b.bears(0), 0);
        b.drawing(4);
        b.load(1, 3, 1);
        due("no stick", b.bears(1), 0);
        b.stick(1, 3, 2, 2);
        due("no way to the floor", b.bears(1), 0);
        b.stick(1, 2, 0, 2);
        due("a way", b.bears(1), 1);
        b.load(1, 3, 60);
        due("60 by thick ones", b.bears(1), 1);
        b.load(1, 2, 61);
        due("61 by a thick one", b.bears(1), 0);
        b.stick(1, 2, 0, 0);
        due("61 by two", b.bears(1), 1);
        // The flow must be led back through the middle, against the first way that is found.
        b.drawing(4);
        int[][] sticks = {{3, 1, 1}, {3, 2, 1}, {1, 2, 1}, {1, 0, 1}, {2, 0, 1}};
        for (int[] s : sticks) {
            b.stick(2, s[0], s[1], s[2]);
        }
        b.load(2, 3, 50);
        due("both ways", b.bears(2), 1);
        b.load(2, 3, 51);
        due("more than both ways", b.bears(2), 0);
    }

    private static void promise8() {
        UtilityBoard b = new UtilityBoard();
        due("no drawing", b.cheapest(0, NONE), NONE);
        b.drawing(3);
        due("no sticks", b.cheapest(0, NONE), 0);
        due("no stick 0", b.cheapest(0, 0), NONE);
        b.stick(0, 0, 1, 2);
        b.stick(0, 1, 0, 2);
        b.stick(0, 2, 1, 2);
        due("without loads all thin", b.cheapest(0, NONE), 6);
        b.load(0, 1, 35);
        due("35 through two", b.cheapest(0, NONE), 8);
        due("the least row: stick 0", b.cheapest(0, 0), 0);
        due("the least row: stick 1", b.cheapest(0, 1), 1);
        due("the least row: stick 2", b.cheapest(0, 2), 0);
        due("stick 3", b.cheapest(0, 3), NONE);
        due("stick -2", b.cheapest(0, -2), NONE);
        b.load(0, 2, 26);
        due("26 through one", b.cheapest(0, NONE), 15);
        due("stick 2 is thick", b.cheapest(0, 2), 2);
        due("the drawing stays", b.bears(0), 1);
        b.load(0, 2, 60);
        due("60 through one, then two", b.cheapest(0, NONE), 2 + 9 + 9);
        due("stick 0 then", b.cheapest(0, 0), 0);
        due("stick 1 then", b.cheapest(0, 1), 2);
        b.load(0, 2, 61);
        due("61 through one", b.cheapest(0, NONE), NONE);
        due("61 through one: stick 0", b.cheapest(0, 0), NONE);
        b.stick(0, 2, 0, 0);
        due("another way", b.cheapest(0, NONE) > 0, true);
    }

    private static void promise9() {
        UtilityBoard b = new UtilityBoard();
        due("no cloth", b.thing(0, 0, 0, 1), NONE);
        due("no drawing", b.thing(1, 0, 0, 1), NONE);
        b.cloth(100, 1, 1);
        b.drawing(2);
        b.drawing(2);
        due("coat", b.thing(0, 0, 0, 1), 0);
        due("chair", b.thing(1, 1, 9, 10000), 1);
        due("other", b.thing(2, NONE, 0, 1), 2);
        int[][] wrong = {{0, 1, 0, 1}, {0, NONE, 0, 1}, {1, 2, 0, 1}, {1, NONE, 0, 1}, {2, 0, 0, 1}, {2, -2, 0, 1},
            {3, NONE, 0, 1}, {-1, NONE, 0, 1}, {0, 0, -1, 1}, {0, 0, 10, 1}, {0, 0, 0, 0}, {0, 0, 0, 10001}};
        for (int[] w : wrong) {
            due("wrong thing", b.thing(w[0], w[1], w[2], w[3]), NONE);
        }
        for (int i = 3; i < 30; i++) {
            due("thing " + i, b.thing(2, NONE, 0, 1), i);
        }
        due("thing 30", b.thing(2, NONE, 0, 1), NONE);
        due("things", b.count(3), 30);
    }

    private static void promise10() {
        UtilityBoard b = town();
        b.drawing(2);
        b.thing(1, 0, 0, 1);
        due("of another", b.piece(1, 1, 1), NONE);
        due("of a chair", b.piece(2, 1, 1), NONE);
        due("of none", b.piece(3, 1, 1), NONE);
        due("of NONE", b.piece(NONE, 1, 1), NONE);
        int[][] wrong = {{0, 1}, {61, 1}, {1, 0}, {1, 61}, {LOW, HIGH}};
        for (int[] w : wrong) {
            due("wrong piece", b.piece(0, w[0], w[1]), NONE);
        }
        for (int i = 0; i < 9; i++) {
            due("piece " + i, b.piece(0, 60, 1 + i), i);
        }
        due("piece 9", b.piece(0, 1, 1), NONE);
    }

    private static void promise11() {
        UtilityBoard b = town();
        due("of no pieces, no byte", b.laid(0, 1, 0), 0);
        Due.feed(b, 1);
        due("of no pieces, one byte", b.laid(0, 1, 1), -2);
        due("the tape is empty", b.count(10), 0);
        b.piece(0, 10, 20);
        b.piece(0, 30, 20);
        b.piece(0, 10, 30);
        laid(b, 40, 40, 0, 1, 2);
        laid(b, 40, 50, 0, 2, 1);
        laid(b, 40, 40, 2, 1, 0);
        laid(b, 50, 40, 2, 0, 1);
        laid(b, 49, 50, 0, 2, 1);
        laid(b, 70, 30, 0, 1, 2);
        laid(b, 30, 50, 0, 1, 2);
        laid(b, 29, -2, 0, 1, 2);
        laid(b, 40, -2, 0, 1, 1);
        laid(b, 40, -2, 0, 1, 3);
        laid(b, 40, -2, 0, 1, 255);
        laid(b, 40, -2, 0, 1);
        laid(b, 40, -2, 0, 1, 2, 0);
        laid(b, 200, 30, 0, 1, 2);
        Due.feed(b, 0, 1, 2);
        due("width 0", b.laid(0, 0, 3), NONE);
        due("width 201", b.laid(0, 201, 3), NONE);
        due("no coat", b.laid(1, 40, 3), NONE);
        due("no thing", b.laid(2, 40, 3), NONE);
        due("n below 0", b.laid(0, 40, -1), NONE);
        due("n above the tape", b.laid(0, 40, 21), NONE);
        due("n far above the tape", b.laid(0, 40, HIGH), NONE);
        due("the tape stays", b.count(10), 20);
        due("no byte", b.laid(0, 40, 0), -2);
        due("the tape is empty for no byte too", b.count(10), 0);
    }

    private static void laid(UtilityBoard b, int width, int want, int... order) {
        Due.feed(b, order);
        due("laid on " + width, b.laid(0, width, order.length), want);
        due("the tape then", b.count(10), 0);
    }

    private static void promise12() {
        UtilityBoard b = town();
        due("no pieces", b.least(0, 1, NONE), 0);
        due("no pieces on width 0", b.least(0, 0, NONE), NONE);
        due("no pieces on width 201", b.least(0, 201, NONE), NONE);
        due("no piece 0", b.least(0, 1, 0), NONE);
        int[][] pieces = {{10, 20}, {30, 20}, {10, 20}, {30, 20}};
        for (int[] p : pieces) {
            b.piece(0, p[0], p[1]);
        }
        least(b, 40, 40, 0, 2, 1, 3);
        least(b, 80, 30, 0, 1, 2, 3);
        least(b, 60, 40, 0, 1, 3, 2);
        least(b, 20, 80, 0, 1, 2, 3);
        due("wider", b.least(0, 19, NONE), NONE);
        due("width 0", b.least(0, 0, NONE), NONE);
        due("width 201", b.least(0, 201, NONE), NONE);
        due("width 200", b.least(0, 200, NONE), 30);
        due("no coat", b.least(1, 40, NONE), NONE);
        due("no thing", b.least(2, 40, NONE), NONE);
        due("the 4th", b.least(0, 40, 4), NONE);
        due("what -2", b.least(0, 40, -2), NONE);
        b.piece(0, 50, 40);
        least(b, 40, 90, 0, 2, 1, 3, 4);
        // The same number of PIECES of another THING on the same WIDTH.
        b.thing(0, 0, 0, 1);
        for (int i = 0; i < 5; i++) {
            b.piece(2, 1, 40);
        }
        due("another thing", b.least(2, 40, NONE), 5);
        due("the first again", b.least(0, 40, NONE), 90);
        for (int i = 5; i < 9; i++) {
            b.piece(2, 60, 60);
        }
        due("nine pieces", b.least(2, 60, NONE), 245);
        due("the last of nine", b.least(2, 60, 8), 8);
    }

    private static void least(UtilityBoard b, int width, int want, int... row) {
        due("least on " + width, b.least(0, width, NONE), want);
        for (int i = 0; i < row.length; i++) {
            due("least on " + width + " at " + i, b.least(0, width, i), row[i]);
        }
    }

    private static void promise13() {
        UtilityBoard b = new UtilityBoard();
        int[][] wrong = {{-1, 1, 0, 1, 0}, {8, 1, 0, 1, 0}, {0, 0, 0, 1, 0}, {0, 10001, 0, 1, 0}, {0, 1, -1, 1, 0},
            {0, 1, 1001, 1, 0}, {0, 1, 0, 0, 0}, {0, 1, 0, 101, 0}, {0, 1, 0, 1, -1}, {0, 1, 0, 1, 10001}};
        for (int[] w : wrong) {
            due("wrong maker", b.maker(w[0], w[1], w[2], w[3], w[4]), NONE);
        }
        due("the least one", b.maker(0, 1, 0, 1, 0), 0);
        due("the most one", b.maker(7, 10000, 1000, 100, 10000), 1);
        for (int i = 2; i < 12; i++) {
            due("maker " + i, b.maker(0, 1, 0, 1, 0), i);
        }
        due("maker 12", b.maker(0, 1, 0, 1, 0), NONE);
        due("makers", b.count(4), 12);
    }

    private static void promise14() {
        UtilityBoard b = town();
        due("it is not at first", b.named(0, false), false);
        due("named", b.named(0, true), true);
        due("named again", b.named(0, true), false);
        due("not any more", b.named(0, false), true);
        due("no maker", b.named(1, true), false);
        due("NONE", b.named(NONE, true), false);
    }

    private static void promise15() {
        UtilityBoard b = town();
        due("yards 1", b.yards(0, 0, 1), 1);
        due("yards 0", b.yards(0, 0, 0), NONE);
        due("yards 10001", b.yards(0, 0, 10001), NONE);
        due("no maker", b.yards(1, 0, 1), NONE);
        due("no cloth", b.yards(0, 1, 1), NONE);
        due("NONE", b.yards(NONE, NONE, 1), NONE);
        for (int i = 0; i < 99; i++) {
            b.yards(0, 0, 10000);
        }
        due("yards 990001", b.look(100, 1), 990001);
        due("above the most", b.yards(0, 0, 10000), NONE);
        due("the most", b.yards(0, 0, 9999), 1000000);
        due("above it", b.yards(0, 0, 1), NONE);
        due("it stays", b.look(100, 1), 1000000);
    }

    private static void promise16() {
        UtilityBoard b = town();
        for (int i = 1; i <= 20; i++) {
            due("feed " + i, b.feed(0, 0, 0, 0, 0), 20 * i);
        }
        due("feed 21", b.feed(0, 0, 0, 0, 0), NONE);
        due("the tape", b.count(10), 400);
        b.check(0);
        b.feed(0x6228773d, 0x77290000, 0, 0, 0);
        due("b(w=w), the highest of each first", b.order(0, 499, 6), 0);
        due("it bars", b.makes(0, 1, 2, false), -2);
        b.feed(0x782b, 0, 0, 0, 0);
        b.feed(0, 0, 0, 0, 0xff);
        due("behind the tape, from its first byte on", b.order(0, 499, 40), -1000);
    }

    private static void promise17() {
        UtilityBoard b = town();
        Due.feed(b, "b(w=1)".chars().toArray());
        int[][] wrong = {{-1, 0, 6}, {0, 500, 6}, {5, 4, 6}, {500, 500, 6}, {0, 0, 0}, {0, 0, -1}, {0, 0, 21},
            {0, 0, 161}, {LOW, HIGH, 6}, {0, 0, LOW}};
        for (int[] w : wrong) {
            due("wrong order", b.order(w[0], w[1], w[2]), NONE);
            due("the tape stays", b.count(10), 20);
        }
        due("one week", b.order(499, 499, 6), 0);
        due("the tape is empty", b.count(10), 0);
        due("a fault", Due.order(b, 0, 0, "b(w=1"), -1005);
        due("the tape is empty behind a fault", b.count(10), 0);
        String most = "b(w=1" + "+1".repeat(77) + ")";
        due("160 bytes", Due.order(b, 0, 499, most), 1);
        due("161 bytes", Due.order(b, 0, 499, most + ";"), NONE);
        due("clauses", b.count(21), 1);
        b.check(0);
        for (int i = 2; i < 30; i++) {
            due("order " + i, Due.order(b, 0, 0, "x0.0"), i);
        }
        due("order 30", Due.order(b, 0, 0, "x0.0"), NONE);
        due("order 30 with a fault", b.order(0, 0, 20), NONE);
        due("the tape stays at 30", b.count(10), 20);
        due("orders", b.count(5), 30);
    }

    private static void promise18() {
        UtilityBoard b = town();
        Due.order(b, 3, 9, "p5" + ALWAYS + ";c6" + ALWAYS + ";g7" + ALWAYS + ";d8" + ALWAYS + ";m(t=2);b(t=2)");
        int[] none = {0, NONE, 0, 0, 0, 0};
        int[] there = {5, 6, 7, 8, 0, 0};
        for (int which = 0; which < 6; which++) {
            int x = which == 2 ? NONE : 0;
            due("number " + which + " before", b.number(which, x, NONE, 2, 0), none[which]);
            due("number " + which + " from", b.number(which, x, NONE, 3, 0), there[which]);
            due("number " + which + " to", b.number(which, x, NONE, 9, 499), there[which]);
            due("number " + which + " behind", b.number(which, x, NONE, 10, 0), none[which]);
            due("week -1", b.number(which, x, NONE, -1, 0), NONE);
            due("week 500", b.number(which, x, NONE, 500, 0), NONE);
            due("t -1", b.number(which, x, NONE, 3, -1), NONE);
            due("t 500", b.number(which, x, NONE, 3, 500), NONE);
            due("no maker 1", b.number(which, x, 1, 3, 0), NONE);
            due("no maker -2", b.number(which, x, -2, 3, 0), NONE);
            due("no thing 2", b.number(which, 2, NONE, 3, 0), NONE);
        }
        due("m by a maker", b.number(4, 0, 0, 3, 0), 1);
        due("b by a maker", b.number(5, 0, 0, 3, 0), 1);
        due("g of a thing", b.number(2, 0, NONE, 3, 0), NONE);
        due("g of a maker", b.number(2, NONE, 0, 3, 0), NONE);
        due("p of no thing", b.number(0, NONE, NONE, 3, 0), NONE);
        due("which 6", b.number(6, 0, NONE, 3, 0), NONE);
        due("which -1", b.number(-1, 0, NONE, 3, 0), NONE);
        due("which HIGH", b.number(HIGH, 0, NONE, 3, 0), NONE);
    }

    private static void promise19() {
        UtilityBoard b = town();
        due("it may", b.why(0, 0, 0), NONE);
        Due.order(b, 0, 499, "b(q=9);p5" + ALWAYS);
        Due.order(b, 0, 499, "m" + ALWAYS + ";b(q=3);b(q=3)");
        Due.order(b, 0, 499, "b" + ALWAYS);
        due("the order", b.why(0, 0, 0), 1);
        due("the clause", b.why(0, 0, 1), 1);
        due("the order of another", b.why(1, 0, 0), 2);
        due("the clause of another", b.why(1, 0, 1), 0);
        due("what 2", b.why(0, 0, 2), NONE);
        due("what -1", b.why(0, 0, -1), NONE);
        due("no thing", b.why(2, 0, 0), NONE);
        due("no maker", b.why(0, 1, 0), NONE);
        due("NONE", b.why(0, NONE, 0), NONE);
    }

    private static void promise20() {
        UtilityBoard b = town();
        due("n 0", b.makes(0, 1, 0, false), NONE);
        due("n 10001", b.makes(0, 1, 10001, false), NONE);
        due("no maker", b.makes(1, 1, 1, false), NONE);
        due("no thing", b.makes(0, 2, 1, false), NONE);
        due("too few yards", b.makes(0, 0, 1, false), -4);
        b.yards(0, 0, 10);
        due("3 coats of 3 yards", b.makes(0, 0, 3, false), 3);
        due("a 4th", b.makes(0, 0, 1, false), -4);
        due("a yard is left", b.look(100, 1), 1);
        due("unmarked without an m", b.makes(0, 0, 1, true), -3);
        due("37 others: 40 in all", b.makes(0, 1, 37, false), 37);
        due("one more than hands", b.makes(0, 1, 1, false), -5);
        due("the first of these is yards", b.makes(0, 0, 1, false), -4);
        Due.order(b, 0, 499, "b(k=0);m(k=1)");
        due("barred", b.makes(0, 0, 1, false), -2);
        due("barred, marked", b.makes(0, 0, 1, true), -2);
        due("no m for this", b.makes(0, 1, 1, true), -3);
        b.maker(0, 5, 1000, 100, 0);
        due("above plant", b.makes(1, 1, 6, false), -5);
        due("plant", b.makes(1, 1, 5, false), 42);
        b.maker(0, 5, 0, 100, 0);
        due("no hands", b.makes(2, 1, 1, false), -5);
        b.goes();
        due("in the next week", b.makes(1, 1, 5, false), 47);
        UtilityBoard c = new UtilityBoard();
        c.cloth(100, 1, 1);
        c.thing(0, 0, 0, 10);
        c.maker(0, 1000, 1000, 1, 0);
        c.yards(0, 0, 1);
        due("all inches together through 36", c.makes(0, 0, 4, false), -4);
        due("30 inches are a yard", c.makes(0, 0, 3, false), 3);
        c.yards(0, 0, 2);
        due("72 are two", c.makes(0, 0, 7, false), 10);
        due("none are left", c.look(100, 1), 0);
    }

    private static void promise20InTheShops() {
        UtilityBoard b = town();
        Due.order(b, 0, 499, "m" + ALWAYS);
        for (int m = 1; m < 11; m++) {
            b.maker(0, 10000, 1000, 100, 0);
        }
        for (int i = 0; i < 100; i++) {
            b.makes(1 + i % 10, 1, 10000, false);
            if (i % 10 == 9) {
                b.goes();
            }
        }
        due("the most", b.count(101), 1000000);
        due("above the most", b.makes(1, 1, 1, false), NONE);
        due("nothing was made", b.look(101, 0), 0);
        due("marked ones are others", b.makes(1, 1, 10000, true), 1010000);
        due("gone by the first of each week", b.gone(1, 100000), 20);
        UtilityBoard c = town();
        Due.order(c, 0, 499, "m(h=10)");
        due("unmarked", c.makes(0, 1, 3, false), 3);
        due("marked", c.makes(0, 1, 4, true), 7);
        due("unmarked ones", c.count(101), 3);
        due("marked ones", c.count(201), 4);
    }

    private static void promise21() {
        UtilityBoard b = new UtilityBoard();
        due("purse -1", b.person(-1), NONE);
        due("purse 1000001", b.person(1000001), NONE);
        due("purse 0", b.person(0), 0);
        due("purse 1000000", b.person(1000000), 1);
        due("its purse", b.look(1, 1), 1000000);
        due("its points", b.look(1, 0), 0);
        for (int i = 2; i < 40; i++) {
            due("person " + i, b.person(5), i);
        }
        due("person 40", b.person(5), NONE);
        due("persons", b.count(6), 40);
    }

    private static void promise22() {
        UtilityBoard b = town();
        b.makes(0, 1, 5, false);
        due("1 at first", b.buys(0, 1, false), 1);
        due("price 0", b.price(1, 0), false);
        due("price 100001", b.price(1, 100001), false);
        due("no thing", b.price(2, 5), false);
        due("NONE", b.price(NONE, 5), false);
        due("price 100000", b.price(1, 100000), true);
        due("price 7", b.price(1, 7), true);
        due("price 7 again", b.price(1, 7), true);
        due("7 now", b.buys(0, 1, false), 7);
    }

    private static void promise23() {
        UtilityBoard b = town();
        b.price(1, 80);
        due("no person", b.buys(1, 1, false), NONE);
        due("no thing", b.buys(0, 2, false), NONE);
        due("none is there", b.buys(0, 1, false), -2);
        b.makes(0, 1, 5, false);
        due("none marked is there", b.buys(0, 1, true), -2);
        Due.order(b, 0, 499, "g5" + ALWAYS + ";p7(t=0);c60(h=0);m" + ALWAYS);
        Due.order(b, 0, 499, "p99(t=2);c1(h=10)");
        due("too few points", b.buys(0, 1, false), -3);
        b.goes();
        b.goes();
        due("no more than c", b.buys(0, 1, false), 60);
        due("points then", b.look(0, 0), 3);
        due("purse then", b.look(0, 1), 140);
        due("in the shops then", b.count(101), 4);
        b.makes(0, 1, 1, true);
        goesTo(b, 10);
        due("a marked one", b.buys(0, 1, true), 60);
        due("no marked one any more", b.buys(0, 1, true), -2);
        due("another", b.buys(0, 1, false), 60);
        due("too little in the purse", b.buys(0, 1, false), -4);
        due("points stay", b.look(0, 0), 50 - 21);
        due("purse stays", b.look(0, 1), 20);
        due("shops stay", b.count(101), 3);
        b.price(1, 20);
        due("all of the purse", b.buys(0, 1, false), 20);
        Due.order(b, 0, 499, "c0" + ALWAYS);
        due("for nothing", b.buys(0, 1, false), 0);
    }

    private static void promise24() {
        UtilityBoard b = town();
        due("none is there", b.gone(1, 5), NONE);
        Due.order(b, 0, 499, "m" + ALWAYS);
        b.makes(0, 1, 6, false);
        b.makes(0, 1, 4, true);
        due("at once", b.gone(1, 10), 0);
        due("9 a week", b.gone(1, 9), 1);
        due("1 a week", b.gone(1, 1), 9);
        due("100000 a week", b.gone(1, 100000), 0);
        goesTo(b, 3);
        due("from now on", b.gone(1, 5), 4);
        due("n 0", b.gone(1, 0), NONE);
        due("n 100001", b.gone(1, 100001), NONE);
        due("no thing", b.gone(2, 1), NONE);
    }

    private static void promise25() {
        UtilityBoard b = town();
        int[][] wrong = {{1, 0, 0, 5}, {-1, 0, 0, 5}, {0, 2, 0, 5}, {0, -1, 0, 5}, {0, 0, -1, 5}, {0, 0, 1, 5},
            {0, 0, 0, -1}, {0, 0, 0, 100}};
        for (int[] w : wrong) {
            due("wrong docket", b.docket(w[0], w[1], w[2], w[3]), NONE);
        }
        b.goes();
        due("since now", b.docket(0, 0, 1, 0), 0);
        due("since week 0", b.docket(0, 0, 0, 99), 1);
        for (int i = 2; i < 60; i++) {
            due("docket " + i, b.docket(0, 1, 0, 5), i);
        }
        due("docket 60", b.docket(0, 1, 0, 5), NONE);
        due("dockets", b.count(7), 60);
    }

    private static UtilityBoard inLine() {
        UtilityBoard b = town();
        b.person(500);
        b.makes(0, 1, 9, false);
        goesTo(b, 5);
        b.docket(0, 1, 4, 5);
        b.docket(1, 1, 2, 5);
        b.docket(0, 1, 5, 9);
        b.docket(1, 1, 2, 5);
        b.docket(1, 0, 1, 50);
        return b;
    }

    private static void promise26() {
        UtilityBoard b = inLine();
        int[] line = {2, 1, 3, 0, NONE};
        for (int i = 0; i < line.length; i++) {
            due("first(1, " + i + ")", b.first(1, i), line[i]);
        }
        due("of the coat", b.first(0, 0), 4);
        due("i -1", b.first(1, -1), NONE);
        due("i HIGH", b.first(1, HIGH), NONE);
        due("no thing", b.first(2, 0), NONE);
        due("NONE", b.first(NONE, 0), NONE);
        b.buys(1, 1, false);
        due("both of a person are closed", b.first(1, 1), 0);
        due("none behind", b.first(1, 2), NONE);
        due("of another thing it is open", b.first(0, 0), 4);
        due("a new one is open", b.docket(1, 1, 0, 99), 5);
        due("it is the first", b.first(1, 0), 5);
        due("closed ones are counted", b.count(7), 6);
    }

    private static void promise27() {
        UtilityBoard b = inLine();
        due("waits(0, 1)", b.waits(0, 1), 3);
        due("waits(0, 2)", b.waits(0, 2), 1);
        due("waits(0, 3)", b.waits(0, 3), 1);
        due("waits(0, 4)", b.waits(0, 4), 0);
        due("waits(0, 100)", b.waits(0, 100), 0);
        due("waits(2, 1)", b.waits(2, 1), 0);
        due("waits(3, 1)", b.waits(3, 1), 2);
        due("n 0", b.waits(0, 0), NONE);
        due("n 101", b.waits(0, 101), NONE);
        due("no docket", b.waits(5, 1), NONE);
        due("NONE", b.waits(NONE, 1), NONE);
        b.buys(0, 1, false);
        due("closed", b.waits(0, 1), NONE);
        due("one before is closed", b.waits(3, 1), 1);
    }

    private static void promise28() {
        UtilityBoard b = inLine();
        due("no person", b.bombed(2), NONE);
        due("NONE", b.bombed(NONE), NONE);
        due("person 1", b.bombed(1), 3);
        due("again", b.bombed(1), 0);
        due("first then", b.first(1, 0), 1);
        due("second then", b.first(1, 1), 3);
        b.buys(0, 1, false);
        due("none is open", b.bombed(0), 0);
        b.docket(0, 1, 0, 99);
        b.docket(0, 1, 0, 98);
        due("one has 99", b.bombed(0), 1);
    }

    private static void promise29() {
        UtilityBoard b = town();
        goesTo(b, 2);
        int[][] wrong = {{2, 0, 1}, {-1, 0, 1}, {0, -1, 1}, {0, 3, 1}, {0, 0, 0}, {0, 0, 100001}};
        for (int[] w : wrong) {
            due("wrong seen", b.seen(w[0], w[1], w[2]), false);
        }
        for (int i = 0; i < 100; i++) {
            due("seen " + i, b.seen(i % 2, i % 3, i == 0 ? 100000 : 1), true);
        }
        due("seen 100", b.seen(0, 0, 1), false);
        due("seen ones", b.count(8), 100);
    }

    private static void promise30() {
        UtilityBoard b = town();
        b.person(1000);
        b.maker(0, 100, 100, 100, 0);
        b.named(0, true);
        b.named(1, true);
        Due.order(b, 0, 499, "m" + ALWAYS);
        due("none seen", b.falsely(1), 0);
        due("no thing", b.falsely(2), NONE);
        due("NONE", b.falsely(NONE), NONE);
        b.makes(0, 1, 5, true);
        b.makes(0, 1, 9, false);
        b.goes();
        b.makes(1, 1, 4, true);
        b.buys(0, 1, true);
        b.buys(0, 1, false);
        b.goes();
        b.seen(1, 0, 5);
        due("as many as were made", b.falsely(1), 0);
        b.seen(1, 0, 6);
        due("one more", b.falsely(1), 1);
        b.seen(1, 1, 10);
        due("one was bought", b.falsely(1), 2);
        b.seen(1, 2, 9);
        due("the most of all seen ones", b.falsely(1), 2);
        b.seen(0, 2, 50);
        due("of another thing", b.falsely(1), 2);
        due("the other thing", b.falsely(0), 50);
        b.named(1, false);
        due("one is not named now", b.falsely(1), 6);
        b.named(0, false);
        due("none is named now", b.falsely(1), 11);
    }

    private static void promise31() {
        UtilityBoard b = town();
        due("no cloth", b.rubbed(1, 1, true), false);
        due("NONE", b.rubbed(NONE, 1, true), false);
        due("turns 0", b.rubbed(0, 0, true), false);
        due("turns 100001", b.rubbed(0, 100001, true), false);
        for (int i = 0; i < 100; i++) {
            due("rubbed " + i, b.rubbed(0, i == 0 ? 1 : 100000, false), true);
        }
        due("rubbed 100", b.rubbed(0, 1, false), false);
        due("rubbed ones", b.count(9), 100);
    }

    private static void promise32() {
        UtilityBoard b = town();
        b.rubbed(0, 90, false);
        b.rubbed(0, 90, false);
        due("bench(0)", b.bench(0), false);
        due("bench(1001)", b.bench(1001), false);
        due("50 still", b.isTrue(0, 0), 2);
        due("bench(1)", b.bench(1), true);
        due("1 now", b.isTrue(0, 0), 1);
        due("bench(1000)", b.bench(1000), true);
        due("bench(1000) again", b.bench(1000), true);
        due("1000 now", b.isTrue(0, 0), 2);
    }

    private static void promise33() {
        UtilityBoard b = town();
        b.cloth(300, 1, 1);
        due("none rubbed", b.isTrue(0, 0), 2);
        due("no cloth", b.isTrue(2, 0), NONE);
        due("t -1", b.isTrue(0, -1), NONE);
        due("t 500", b.isTrue(0, 500), NONE);
        b.rubbed(0, 4500, true);
        due("one", b.isTrue(0, 0), 2);
        b.goes();
        b.rubbed(0, 4500, false);
        due("two", b.isTrue(0, 1), 1);
        due("two, far on", b.isTrue(0, 499), 1);
        due("as known before", b.isTrue(0, 0), 2);
        b.goes();
        b.rubbed(0, 4499, false);
        due("one was whole, but not for long", b.isTrue(0, 2), 2);
        b.goes();
        b.rubbed(0, 4499, true);
        due("one tore", b.isTrue(0, 3), 0);
        due("as known before it tore", b.isTrue(0, 2), 2);
        due("as known before that", b.isTrue(0, 1), 1);
        due("another cloth", b.isTrue(1, 3), 2);
        // A tenth of 19, rounded down, is 1: 18 TURNS are the least.
        b.bench(19);
        b.rubbed(1, 18, false);
        b.rubbed(1, 18, true);
        due("18 of 19", b.isTrue(1, 3), 1);
        b.rubbed(1, 17, true);
        due("17 of 19", b.isTrue(1, 3), 0);
    }

    private static UtilityBoard mills() {
        UtilityBoard b = new UtilityBoard();
        b.maker(0, 100, 30, 5, 0);
        b.maker(1, 50, 10, 10, 0);
        b.maker(1, 80, 20, 4, 0);
        b.maker(2, 500, 1, 1, 0);
        b.maker(3, 40, 0, 10, 0);
        return b;
    }

    private static void promise34() {
        UtilityBoard b = mills();
        due("by the greatest rate first", b.needs(7, 7, 150), 25);
        due("rounded up", b.needs(7, 7, 151), 26);
        due("one piece", b.needs(7, 7, 1), 1);
        due("of like ones the lowest first", b.needs(31, 18, 55), 6);
        due("all of plant", b.needs(7, 4, 80), 20);
        due("more than plant", b.needs(7, 4, 81), -2);
        due("hands of all told ones", b.needs(15, 8, 61), 61);
        due("more than hands", b.needs(15, 8, 62), -2);
        due("hands of others do not count", b.needs(8, 8, 2), -2);
        due("pieces 0", b.needs(7, 7, 0), NONE);
        due("pieces 100001", b.needs(7, 7, 100001), NONE);
        due("pieces 100000", b.needs(7, 7, 100000), -2);
        due("none in the set", b.needs(7, 0, 5), NONE);
        due("none told", b.needs(0, 0, 5), NONE);
        due("others in the set", b.needs(3, 4, 5), NONE);
        due("no such maker", b.needs(32, 32, 5), NONE);
        due("below 0", b.needs(-1, 1, 5), NONE);
        due("LOW", b.needs(LOW, LOW, 5), NONE);
        for (int m = 5; m < 12; m++) {
            b.maker(0, 10, 10, 1, 0);
        }
        due("eight told", b.needs(0xff, 1, 5), 1);
        due("eight others told", b.needs(0xff0, 0x800, 5), 5);
        due("nine told", b.needs(0x1ff, 1, 5), NONE);
    }

    private static void promise35() {
        UtilityBoard b = mills();
        due("150", b.fewest(7, 150, NONE), 3);
        due("50", b.fewest(7, 50, NONE), 2);
        due("50 with town 0", b.fewest(7, 50, 0), 3);
        due("50 with town 1", b.fewest(7, 50, 1), 2);
        due("the least of like ones", b.fewest(19, 40, NONE), 2);
        due("fewer makers of like hands", b.fewest(6, 50, NONE), 2);
        due("no town 3", b.fewest(7, 50, 3), NONE);
        due("town 3", b.fewest(31, 10, 3), 16);
        due("too many pieces", b.fewest(7, 231, NONE), NONE);
        due("none told", b.fewest(0, 50, NONE), NONE);
        due("no such maker", b.fewest(64, 50, NONE), NONE);
        due("below 0", b.fewest(-1, 50, NONE), NONE);
        due("town 8", b.fewest(7, 50, 8), NONE);
        due("town -2", b.fewest(7, 50, -2), NONE);
        due("pieces 0", b.fewest(7, 0, NONE), NONE);
        due("pieces 100001", b.fewest(7, 100001, NONE), NONE);
        for (int m = 5; m < 12; m++) {
            b.maker(0, 10, 10, 1, 0);
        }
        due("nine told", b.fewest(0x1ff, 5, NONE), NONE);
        due("eight told", b.fewest(0xff, 5, NONE), 1);
    }

    private static void promise36() {
        UtilityBoard b = town();
        b.drawing(2);
        b.thing(1, 0, 0, 44);
        b.cloth(300, 1, 7);
        b.thing(0, 1, 0, 11);
        due("a coat", b.loses(0, 0), 216 + 10 - 1);
        due("another", b.loses(0, 1), 10 - 1);
        due("a chair", b.loses(0, 2), 44 + 10 - 1);
        due("77 through 36, rounded up", b.loses(0, 3), 3 + 10 - 1);
        b.maker(0, 1, 0, 7, 15);
        due("15 through 7, rounded up", b.loses(1, 1), 3 - 1);
        b.price(1, 99);
        due("it gains", b.loses(1, 1), 3 - 99);
        Due.order(b, 0, 499, "d10(t=0);d99(t=2)");
        due("9 of 99 are the shops'", b.loses(1, 1), 3 - 90);
        due("d by no maker", b.loses(0, 1), 10 - 90);
        Due.order(b, 0, 499, "c50" + ALWAYS);
        due("no more than c", b.loses(1, 1), 3 - 45);
        due("no maker", b.loses(2, 1), -1000000000);
        due("no thing", b.loses(0, 4), -1000000000);
        due("NONE", b.loses(NONE, NONE), -1000000000);
    }

    private static void promise37() {
        UtilityBoard b = town();
        b.thing(2, NONE, 5, 1);
        due("all", b.beside(NONE), 3);
        due("no order 0", b.beside(0), NONE);
        due("-2", b.beside(-2), NONE);
        Due.order(b, 0, 499, "b(k=2)");
        Due.order(b, 0, 499, "b(q=3);x0.0");
        due("with both", b.beside(NONE), 2);
        due("without 0", b.beside(0), 2);
        due("without 1, which strikes", b.beside(1), 1);
        due("no order 2", b.beside(2), NONE);
        Due.order(b, 0, 499, "b(t=2)");
        due("none", b.beside(NONE), 0);
        b.maker(3, 1, 1, 1, 1);
        due("by another maker", b.beside(NONE), 2);
        Due.order(b, 1, 499, "b" + ALWAYS);
        due("not in force", b.beside(NONE), 2);
        b.goes();
        due("in force", b.beside(NONE), 0);
        due("in force, but without it", b.beside(3), 2);
    }

    private static void promise38() {
        UtilityBoard b = town();
        Due.order(b, 0, 499, "m" + ALWAYS);
        b.thing(2, NONE, 0, 1);
        due("nothing there", b.check(0), NONE);
        b.makes(0, 1, 5, false);
        b.makes(0, 1, 7, true);
        b.makes(0, 2, 9, true);
        int[] right = {1, 0, 5, 1, 1, 7, 2, 1, 9};
        check(b, 3, NONE, right);
        for (int i = 0; i < 9; i++) {
            int[] wrong = right.clone();
            wrong[i] ^= 1 << 3 * i;
            check(b, 3, i, wrong);
        }
        check(b, 0, 0, right);
        check(b, 1, 3, right);
        check(b, 2, 6, right);
        check(b, 4, 9, 1, 0, 5, 1, 1, 7, 2, 1, 9, 0, 0, 0);
        b.feed(1, 0, 5, 0, 0);
        due("it has not so many", b.check(2), -2);
        due("far from so many", b.check(HIGH), -2);
        due("3 n and 12 n would wrap around", b.check(0x55555556), -2);
        due("below 0", b.check(-1), -2);
        due("the tape stays", b.count(10), 20);
        due("then right so far", b.check(1), 3);
        due("the tape is empty", b.count(10), 0);
    }

    private static void check(UtilityBoard b, int n, int want, int... numbers) {
        int[] bytes = new int[4 * numbers.length];
        for (int i = 0; i < bytes.length; i++) {
            bytes[i] = numbers[i / 4] >> 24 - i % 4 * 8 & 255;
        }
        Due.feed(b, bytes);
        due("check " + n, b.check(n), want);
        due("the tape then", b.count(10), 0);
    }

    private static void promise39() {
        UtilityBoard b = town();
        b.cloth(300, 1, 1);
        b.yards(0, 0, 100);
        b.yards(0, 1, 7);
        b.makes(0, 0, 2, false);
        due("points", b.look(0, 0), 0);
        due("purse", b.look(0, 1), 200);
        due("what 2 of a person", b.look(0, 2), NONE);
        due("what -1 of a person", b.look(0, -1), NONE);
        due("no person", b.look(1, 0), NONE);
        due("who NONE", b.look(NONE, 0), NONE);
        due("who 99", b.look(99, 0), NONE);
        due("made", b.look(100, 0), 2);
        due("yards of 0", b.look(100, 1), 94);
        due("yards of 1", b.look(100, 2), 7);
        due("yards of 2", b.look(100, 3), NONE);
        due("what -1 of a maker", b.look(100, -1), NONE);
        due("what LOW of a maker", b.look(100, LOW), NONE);
        due("no maker", b.look(101, 0), NONE);
        due("who LOW", b.look(LOW, 0), NONE);
    }

    private static void promise40() {
        UtilityBoard b = town();
        b.goes();
        b.drawing(2);
        b.docket(0, 0, 0, 0);
        b.seen(0, 0, 1);
        b.rubbed(0, 1, true);
        Due.order(b, 0, 499, "m" + ALWAYS + ";p0" + ALWAYS + ";x0.0");
        b.makes(0, 1, 3, false);
        b.makes(0, 1, 4, true);
        b.feed(0, 0, 0, 0, 0);
        int[] plain = {1, 1, 1, 2, 1, 1, 1, 1, 1, 1, 20};
        for (int what = 0; what < plain.length; what++) {
            due("count(" + what + ")", b.count(what), plain[what]);
        }
        due("clauses", b.count(20), 3);
        due("unmarked coats", b.count(100), 0);
        due("unmarked others", b.count(101), 3);
        due("marked others", b.count(201), 4);
        int[] others = {-1, 11, 19, 21, 50, 99, 102, 199, 202, 230, LOW, HIGH};
        for (int what : others) {
            due("count(" + what + ")", b.count(what), NONE);
        }
    }
}
