import java.util.Arrays;
import java.util.function.Consumer;

/** Promises 1 to 40, sentence by sentence: what each names as too small, too large, empty, full or refused. */
public final class PromiseBoundaryTest {
    private static final int NONE = UtilityBoard.NONE;
    private static final int LOW = Integer.MIN_VALUE;
    private static final int HIGH = Integer.MAX_VALUE;
    private static final int NO_LOSS = -1000000000;

    public static void main(String[] args) {
        promise1NewObject();
        promise2Goes();
        promise3Cloth();
        promise4Drawing();
        promise5Stick();
        promise6Load();
        promise7Bears();
        promise8Cheapest();
        promise9Thing();
        promise10Piece();
        promise11Laid();
        promise12Least();
        promise13Maker();
        promise14Named();
        promise15Yards();
        promise16Feed();
        promise17Order();
        promise18Number();
        promise18OfAThing();
        promise19Why();
        promise20Makes();
        promise21Person();
        promise22Price();
        promise23Buys();
        promise24Gone();
        promise25Docket();
        promise26First();
        promise27Waits();
        promise28Bombed();
        promise29Seen();
        promise30Falsely();
        promise31Rubbed();
        promise32Bench();
        promise33IsTrue();
        promise34Needs();
        promise35Fewest();
        promise36Loses();
        promise37Beside();
        promise38Check();
        promise39Look();
        promise39Others();
        promise40Count();
        promise40Others();
        for (int n = 1; n <= 40; n++) {
            Doc.nothingIsLeftOf("Promise " + n);
        }
        Due.finish();
    }

    private static void due(String call, long got, long want) {
        Due.due(call, got, want);
    }

    private static void due(String call, boolean got, boolean want) {
        Due.due(call, got, want);
    }

    private static void promise1NewObject() {
        Doc.sentence("Promise 1", "WEEK 0; no CLOTHS, THINGS, MAKERS, ORDERS.");
        UtilityBoard b = new UtilityBoard();
        for (int what = 0; what <= 10; what++) {
            due("count(" + what + ")", b.count(what), 0);
        }
        due("no CLOTH 0", b.thing(0, 0, 0, 1), NONE);
        due("no CLOTH 0 to rub", b.rubbed(0, 1, true), false);
        due("no CLOTH 0 to be true", b.isTrue(0, 0), NONE);
        due("no DRAWING 0", b.bears(0), NONE);
        due("no THING 0", b.falsely(0), NONE);
        due("no THING 0 in the shops", b.count(100), NONE);
        due("no MAKER 0", b.named(0, true), false);
        due("no MAKER 0 to look at", b.look(100, 0), NONE);
        due("no MAKER told", b.fewest(0, 1, NONE), NONE);
        due("no MAKER 0 told", b.needs(1, 1, 1), NONE);
        due("no ORDER 0", b.count(20), NONE);
        due("not without ORDER 0", b.beside(0), NONE);
        due("no THING may be made", b.beside(NONE), 0);
        due("g of no ORDER", b.number(2, NONE, NONE, 0, 0), 0);
        due("no PERSON 0", b.bombed(0), NONE);
        due("no DOCKET 0", b.waits(0, 1), NONE);
        due("nothing to read", b.order(0, 0, 1), NONE);
        due("nothing in the shops", b.check(0), NONE);
        due("a WEEK goes by all the same", b.goes(), 1);
    }

    private static void promise2Goes() {
        Doc.sentence("Promise 2", "A WEEK goes by: which it is then; NONE: it is 499.");
        UtilityBoard b = new UtilityBoard();
        b.thing(2, NONE, 0, 1);
        b.maker(0, 9, 9, 9, 0);
        b.person(0);
        Due.order(b, 0, 499, "g1(w>497)");
        for (int week = 1; week <= 499; week++) {
            due("goes()", b.goes(), week);
        }
        b.makes(0, 0, 5, false);
        due("goes() on 499", b.goes(), NONE);
        due("it is 499", b.count(0), 499);
        due("no POINTS again", b.look(0, 0), 2);
        due("no new WEEK for PLANT", b.look(100, 0), 5);
    }

    private static void promise3Cloth() {
        Doc.sentence("Promise 3", "A CLOTH: its number (0 on); NONE: no such ones, its NUMBER is another's, 20 are there.");
        Land.range("number", 100, 999, NONE, (b, v) -> b.cloth(v, 1, 1));
        Land.range("wear", 1, 1000, NONE, (b, v) -> b.cloth(500, v, 1));
        Land.range("cost", 1, 10000, NONE, (b, v) -> b.cloth(500, 1, v));
        Land.refused(NONE, "the NUMBER of CLOTH 0", b -> b.cloth(209, 5, 5));
        Land.refused(NONE, "the NUMBER of CLOTH 1", b -> b.cloth(310, 7, 5));
        due("the first new one", Land.make().cloth(311, 7, 5), 2);
        UtilityBoard full = new UtilityBoard();
        for (int i = 0; i < 20; i++) {
            due("cloth " + i, full.cloth(100 + i, 1, 1), i);
        }
        due("a 21st", full.cloth(200, 1, 1), NONE);
        due("20 are there", full.count(1), 20);
        due("the 20th stands", full.isTrue(19, 0), 2);
        due("no CLOTH 20", full.isTrue(20, 0), NONE);
        due("its NUMBER was not taken", full.cloth(119, 1, 1), NONE);
    }

    private static void promise4Drawing() {
        Doc.sentence("Promise 4", "A DRAWING with so many JOINTS: its number; NONE: no such ones, 22 are there.");
        Land.range("joints", 2, 8, NONE, (b, v) -> b.drawing(v));
        UtilityBoard full = new UtilityBoard();
        for (int i = 0; i < 22; i++) {
            due("drawing " + i, full.drawing(i % 2 == 0 ? 2 : 8), i);
        }
        due("a 23rd", full.drawing(2), NONE);
        due("22 are there", full.count(2), 22);
        due("the 22nd stands", full.bears(21), 1);
        due("no DRAWING 22", full.bears(22), NONE);
        due("2 JOINTS: no JOINT 2", full.stick(0, 0, 2, 0), NONE);
        due("2 JOINTS: JOINT 1", full.stick(0, 0, 1, 0), 0);
        due("8 JOINTS: no JOINT 8", full.stick(21, 8, 7, 0), NONE);
        due("8 JOINTS: JOINT 7", full.stick(21, 0, 7, 0), 0);
    }

    private static void promise5Stick() {
        Doc.sentence("Promise 5", "A STICK of DRAWING d: its number; NONE: no such ones, one JOINT twice, 8 are there.");
        Land.range("drawing", 0, 1, NONE, (b, v) -> b.stick(v, 0, 1, 0));
        Land.range("joint a", 0, 2, NONE, (b, v) -> b.stick(0, v, 1, 0));
        Land.range("joint b", 0, 2, NONE, (b, v) -> b.stick(0, 1, v, 0));
        Land.range("timber", 0, 2, NONE, (b, v) -> b.stick(0, 0, 1, v));
        for (int joint = 0; joint < 3; joint++) {
            int twice = joint;
            Land.refused(NONE, "JOINT " + joint + " twice", b -> b.stick(0, twice, twice, 0));
        }
        due("the first of another DRAWING", Land.make().stick(1, 1, 0, 2), 0);
        UtilityBoard b = Land.make();
        for (int i = 2; i < 8; i++) {
            due("stick " + i, b.stick(0, 1, 0, 0), i);
        }
        due("a 9th", b.stick(0, 0, 2, 2), NONE);
        due("the 8th stands", b.cheapest(0, 7), 0);
        due("no STICK 8", b.cheapest(0, 8), NONE);
        due("another DRAWING has room", b.stick(1, 0, 1, 0), 0);
        Consumer<UtilityBoard> eight = c -> {
            for (int i = 2; i < 8; i++) {
                c.stick(0, 1, 0, 0);
            }
        };
        Land.refusedAfter(eight, NONE, "a 9th STICK", c -> c.stick(0, 0, 2, 2));
    }

    private static void promise6Load() {
        Doc.sentence("Promise 6", "A LOAD of DRAWING d: true; false: no such ones, at JOINT 0, 8 are there.");
        Land.range("drawing", 0, 1, false, (b, v) -> b.load(v, 1, 1));
        Land.range("joint", 1, 2, false, (b, v) -> b.load(0, v, 1));
        Land.range("pounds", 1, 500, false, (b, v) -> b.load(0, 1, v));
        Land.refused(false, "at JOINT 0", b -> b.load(0, 0, 500));
        Consumer<UtilityBoard> eight = c -> {
            for (int i = 2; i < 8; i++) {
                due("load " + i, c.load(0, 1, 1), true);
            }
        };
        Land.refusedAfter(eight, false, "a 9th LOAD", c -> c.load(0, 2, 500));
        UtilityBoard b = Land.make();
        eight.accept(b);
        due("a 9th", b.load(0, 2, 500), false);
        due("another DRAWING has room", b.load(1, 1, 500), true);
        due("which it does not bear", b.bears(1), 0);
        UtilityBoard last = Land.make();
        for (int i = 2; i < 7; i++) {
            last.load(0, 1, 1);
        }
        due("the 8th", last.load(0, 2, 61), true);
        due("the 8th counts", last.cheapest(0, NONE), NONE);
    }

    private static void promise7Bears() {
        Doc.sentence("Promise 7", "Whether DRAWING d BEARS: 1, 0; NONE: no such one.");
        Land.range("drawing", 0, 1, NONE, (b, v) -> b.bears(v));
        UtilityBoard b = Land.make();
        due("it does not", b.bears(0), 0);
        due("without LOADS it does", b.bears(1), 1);
        b.load(1, 1, 1);
        due("without STICKS it does not", b.bears(1), 0);
        b.stick(1, 0, 1, 0);
        due("by a STICK it does", b.bears(1), 1);
    }

    private static void promise8Cheapest() {
        Doc.sentence("Promise 8", "THE CHEAPEST of DRAWING d: inches (what NONE), or the TIMBER of STICK what; "
            + "NONE: no choice BEARS, no such ones.");
        Land.range("drawing", 0, 1, NONE, (b, v) -> b.cheapest(v, NONE));
        UtilityBoard b = Land.make();
        due("inches", b.cheapest(0, NONE), 6);
        due("STICK 0", b.cheapest(0, 0), 1);
        due("STICK 1", b.cheapest(0, 1), 0);
        int[] wrong = {2, 7, 8, -2, LOW, HIGH};
        for (int what : wrong) {
            due("no STICK " + what, b.cheapest(0, what), NONE);
        }
        due("no STICKS, no LOADS", b.cheapest(1, NONE), 0);
        due("no STICK 0", b.cheapest(1, 0), NONE);
        b.load(1, 1, 1);
        due("no STICKS, a LOAD", b.cheapest(1, NONE), NONE);
        b.stick(1, 0, 1, 2);
        due("a STICK", b.cheapest(1, NONE), 2);
        b.load(1, 1, 60);
        due("a thick one", b.cheapest(1, NONE), 9);
        b.load(1, 1, 61);
        due("no choice", b.cheapest(1, NONE), NONE);
        due("no choice for STICK 0", b.cheapest(1, 0), NONE);
        b.stick(1, 1, 0, 0);
        due("one more STICK", b.cheapest(1, NONE), 11);
        due("it may be the thin one", b.cheapest(1, 0), 0);
        due("then this is thick", b.cheapest(1, 1), 2);
        due("TIMBERS stay as they are told", b.bears(1), 1);
    }

    private static void promise9Thing() {
        Doc.sentence("Promise 9", "A THING (of: its CLOTH, its DRAWING; other: NONE): its number; "
            + "NONE: no such ones, 30 are there.");
        Land.range("its CLOTH", 0, 1, NONE, (b, v) -> b.thing(0, v, 0, 1));
        Land.range("its DRAWING", 0, 1, NONE, (b, v) -> b.thing(1, v, 0, 1));
        Land.range("other: NONE", NONE, NONE, NONE, (b, v) -> b.thing(2, v, 0, 1));
        Land.range("pockets", 0, 9, NONE, (b, v) -> b.thing(2, NONE, v, 1));
        Land.range("inches", 1, 10000, NONE, (b, v) -> b.thing(2, NONE, 0, v));
        int[] kinds = {3, -1, LOW, HIGH};
        for (int kind : kinds) {
            for (int of = NONE; of < 2; of++) {
                int made = of;
                Land.refused(NONE, "kind " + kind + " of " + of, b -> b.thing(kind, made, 0, 1));
            }
        }
        UtilityBoard b = new UtilityBoard();
        b.cloth(100, 1, 1);
        due("a CLOTH, but no DRAWING", b.thing(1, 0, 0, 1), NONE);
        UtilityBoard c = new UtilityBoard();
        c.drawing(2);
        due("a DRAWING, but no CLOTH", c.thing(0, 0, 0, 1), NONE);
        for (int i = 0; i < 30; i++) {
            due("thing " + i, i % 2 == 0 ? c.thing(1, 0, 0, 1) : c.thing(2, NONE, 0, 1), i);
        }
        due("a 31st", c.thing(2, NONE, 0, 1), NONE);
        due("30 are there", c.count(3), 30);
        due("the 30th stands", c.falsely(29), 0);
        due("no THING 30", c.falsely(30), NONE);
    }

    private static void promise10Piece() {
        Doc.sentence("Promise 10", "A PIECE of THING x: its number; NONE: no such ones, no coat, 9 are there.");
        Land.range("thing", 0, 0, NONE, (b, v) -> b.piece(v, 1, 1));
        Land.range("length", 1, 60, NONE, (b, v) -> b.piece(0, v, 1));
        Land.range("width", 1, 60, NONE, (b, v) -> b.piece(0, 1, v));
        Land.refused(NONE, "a chair", b -> b.piece(1, 1, 1));
        Land.refused(NONE, "an other", b -> b.piece(2, 1, 1));
        Consumer<UtilityBoard> nine = b -> {
            for (int i = 3; i < 9; i++) {
                due("piece " + i, b.piece(0, 1, 1), i);
            }
        };
        Land.refusedAfter(nine, NONE, "a 10th", b -> b.piece(0, 60, 60));
        UtilityBoard b = Land.make();
        nine.accept(b);
        due("the 9th stands", b.least(0, 200, 8), 8);
        due("no PIECE 9", b.least(0, 200, 9), NONE);
        b.thing(0, 1, 0, 1);
        due("another coat has room", b.piece(3, 60, 60), 0);
    }

    private static void promise11Laid() {
        Doc.sentence("Promise 11", "LAID on a WIDTH in the order of the first n bytes of the tape (empty then): the length; "
            + "-2: these are not all PIECES once each, or one is wider; "
            + "NONE: no such ones, it has not so many (the tape stays).");
        int[] things = {NONE, 1, 2, 3, LOW, HIGH};
        for (int x : things) {
            Land.refused(NONE, "no coat " + x, b -> b.laid(x, 40, 3));
        }
        int[] widths = {0, 201, -1, LOW, HIGH};
        for (int width : widths) {
            Land.refused(NONE, "width " + width, b -> b.laid(0, width, 3));
        }
        int[] sizes = {21, 400, 401, -1, LOW, HIGH};
        for (int n : sizes) {
            Land.refused(NONE, n + " of twenty bytes", b -> b.laid(0, 40, n));
        }
        Land.emptied(-2, "no byte", b -> b.laid(0, 40, 0));
        Land.emptied(-2, "bytes that are no PIECES", b -> b.laid(0, 40, 3));
        Land.emptied(-2, "all twenty bytes", b -> b.laid(0, 40, 20));
        laid(40, 40, 0, 1, 2);
        laid(40, 50, 0, 2, 1);
        laid(1, -2, 0, 1, 2);
        laid(29, -2, 0, 1, 2);
        laid(30, 50, 0, 1, 2);
        laid(200, 30, 2, 1, 0);
        laid(200, -2, 0, 1);
        laid(200, -2, 0, 1, 1);
        laid(200, -2, 0, 1, 3);
        laid(200, -2, 0, 1, 2, 2);
        laid(200, -2, 1, 2, 3);
        laid(200, -2, 0, 1, 255);
        laid(200, -2, 0, 1, 128);
        laid(200, -2, 256 - 1, 1, 2);
        UtilityBoard b = Land.make();
        b.check(0);
        b.thing(0, 0, 0, 1);
        due("an empty tape has no byte", b.laid(0, 40, 1), NONE);
        due("no PIECES, no bytes", b.laid(3, 1, 0), 0);
        b.feed(0, 0, 0, 0, 0);
        due("no PIECES, a byte", b.laid(3, 1, 1), -2);
        due("the tape then", b.count(10), 0);
        full();
    }

    private static void laid(int width, int want, int... order) {
        UtilityBoard b = Land.make();
        b.check(0);
        Due.feed(b, order);
        due("laid on " + width, b.laid(0, width, order.length), want);
        due("the tape then", b.count(10), 0);
        Land.answer("the land then", Land.state(b), Land.state(Land.make()));
    }

    /** All nine PIECES in the order of a tape of 400 bytes. */
    private static void full() {
        UtilityBoard b = new UtilityBoard();
        b.cloth(100, 1, 1);
        b.thing(0, 0, 0, 1);
        for (int i = 0; i < 9; i++) {
            b.piece(0, 60, 60);
        }
        b.feed(0x08070605, 0x04030201, 0, 0, 0);
        for (int i = 1; i < 20; i++) {
            b.feed(0, 0, 0, 0, 0);
        }
        due("401 of 400 bytes", b.laid(0, 60, 401), NONE);
        due("nine PIECES", b.laid(0, 60, 9), 540);
        due("the whole tape is empty", b.count(10), 0);
    }

    private static void promise12Least() {
        Doc.sentence("Promise 12", "THE LEAST: the length (what NONE), or the what-th PIECE; "
            + "NONE: no such ones, one PIECE is wider.");
        Land.range("thing", 0, 0, NONE, (b, v) -> b.least(v, 40, NONE));
        Land.range("width", 30, 200, NONE, (b, v) -> b.least(0, v, NONE));
        UtilityBoard b = Land.make();
        due("the length", b.least(0, 40, NONE), 40);
        int[] row = {0, 1, 2};
        for (int what = 0; what < 3; what++) {
            due("the PIECE at " + what, b.least(0, 40, what), row[what]);
            due("one is wider, asked for " + what, b.least(0, 29, what), NONE);
        }
        int[] wrong = {3, 8, 9, -2, LOW, HIGH};
        for (int what : wrong) {
            due("no such one " + what, b.least(0, 40, what), NONE);
        }
        due("a chair", b.least(1, 40, NONE), NONE);
        due("an other", b.least(2, 40, NONE), NONE);
        due("as wide as the widest", b.least(0, 30, NONE), 50);
        due("one inch less", b.least(0, 29, NONE), NONE);
        b.thing(0, 0, 0, 1);
        int[] widths = {1, 200};
        for (int width : widths) {
            due("no PIECES on " + width, b.least(3, width, NONE), 0);
            due("no PIECE at 0 of none", b.least(3, width, 0), NONE);
        }
        due("no PIECES on 0", b.least(3, 0, NONE), NONE);
        due("no PIECES on 201", b.least(3, 201, NONE), NONE);
        b.piece(3, 60, 1);
        due("one PIECE on 1", b.least(3, 1, NONE), 60);
        due("it is the first", b.least(3, 1, 0), 0);
    }

    private static void promise13Maker() {
        Doc.sentence("Promise 13", "A MAKER: its number; NONE: no such ones, 12 are there.");
        Land.range("town", 0, 7, NONE, (b, v) -> b.maker(v, 1, 0, 1, 0));
        Land.range("plant", 1, 10000, NONE, (b, v) -> b.maker(0, v, 0, 1, 0));
        Land.range("hands", 0, 1000, NONE, (b, v) -> b.maker(0, 1, v, 1, 0));
        Land.range("rate", 1, 100, NONE, (b, v) -> b.maker(0, 1, 0, v, 0));
        Land.range("hire", 0, 10000, NONE, (b, v) -> b.maker(0, 1, 0, 1, v));
        UtilityBoard full = new UtilityBoard();
        for (int i = 0; i < 12; i++) {
            due("maker " + i, full.maker(i % 8, 10000, 1000, 100 - i, 10000), i);
        }
        due("a 13th", full.maker(0, 1, 0, 1, 0), NONE);
        due("12 are there", full.count(4), 12);
        due("the 12th stands", full.look(111, 0), 0);
        due("no MAKER 12", full.look(112, 0), NONE);
        due("the 12th may be told", full.needs(0x800, 0x800, 89), 1);
        due("a 13th may not", full.needs(0x1000, 0x1000, 1), NONE);
    }

    private static void promise14Named() {
        Doc.sentence("Promise 14", "MAKER m is NAMED (is), or not any more: true; false: no such one, it is so.");
        Land.range("maker not NAMED", 1, 1, false, (b, v) -> b.named(v, true));
        Land.range("maker NAMED", 0, 0, false, (b, v) -> b.named(v, false));
        Land.refused(false, "NAMED already", b -> b.named(0, true));
        Land.refused(false, "not NAMED already", b -> b.named(1, false));
        UtilityBoard b = Land.make();
        due("not any more", b.named(0, false), true);
        due("it is so", b.named(0, false), false);
        due("NAMED again", b.named(0, true), true);
        due("it is so again", b.named(0, true), false);
    }

    private static void promise15Yards() {
        Doc.sentence("Promise 15", "YARDS (1 to 10000) of a CLOTH come to MAKER m: how many it has; "
            + "NONE: no such ones, above 1000000.");
        Land.range("maker", 0, 1, NONE, (b, v) -> b.yards(v, 0, 1));
        Land.range("cloth", 0, 1, NONE, (b, v) -> b.yards(0, v, 1));
        Land.range("yards", 1, 10000, NONE, (b, v) -> b.yards(0, 1, v));
        UtilityBoard b = Land.make();
        due("the first", b.yards(0, 1, 1), 1);
        for (int i = 1; i < 100; i++) {
            due("yards", b.yards(0, 1, 10000), 10000 * i + 1);
        }
        due("above 1000000 by one", b.yards(0, 1, 10000), NONE);
        due("just 1000000", b.yards(0, 1, 9999), 1000000);
        due("one above", b.yards(0, 1, 1), NONE);
        due("it has 1000000", b.look(100, 2), 1000000);
        due("of another CLOTH it has room", b.yards(0, 0, 1), 80);
        due("another MAKER has room", b.yards(1, 1, 1), 8);
    }

    private static void promise16Feed() {
        Doc.sentence("Promise 16", "Twenty bytes come behind the tape, the highest of each int first: how many it has; "
            + "NONE if that would be more than 400.");
        UtilityBoard b = new UtilityBoard();
        due("the first twenty", b.feed(0x78302e30, 0x3b78302e, 0x303b7830, 0x2e303b78, 0x302e303b), 20);
        for (int i = 2; i <= 20; i++) {
            due("twenty more", b.feed(LOW, HIGH, -1, 0, 255), 20 * i);
        }
        due("420 would be too many", b.feed(0, 0, 0, 0, 0), NONE);
        due("400 stay", b.count(10), 400);
        due("the first twenty stand as they were", b.order(0, 0, 19), 0);
        due("their CLAUSES", b.count(20), 4);
        due("an empty tape has room again", b.feed(0x78302e30, 0, 0, 0, 0), 20);
        due("from its first byte on", b.order(0, 0, 4), 1);
        due("it is filled again", b.feed(0x61000000, 0, 0, 0, 0), 20);
        due("the old bytes are gone", b.order(0, 0, 4), -1000);
        UtilityBoard c = new UtilityBoard();
        c.feed(0x783030, 0x30303030, 0, 0, 0);
        due("the highest byte is the first: 0", c.order(0, 0, 8), -1000);
        c.feed(0x6228313d, 0x80000000, 0, 0, 0);
        due("a byte of 128", c.order(0, 0, 5), -1004);
    }

    private static void promise17Order() {
        Doc.sentence("Promise 17", "An ORDER in FORCE from a WEEK to a WEEK by the first n bytes of the tape "
            + "(1 to 160; empty then): its number; a FAULT: -1000 times its number, less its place; "
            + "NONE: no such ones, 30 are there, it has not so many (the tape stays).");
        Land.range("from", 0, 499, NONE, (b, v) -> b.order(v, 499, 20));
        Land.range("to", 7, 499, NONE, (b, v) -> b.order(7, v, 20));
        int[] sizes = {0, -1, 21, 160, 161, LOW, HIGH};
        for (int n : sizes) {
            Land.refused(NONE, n + " of twenty bytes", b -> b.order(0, 499, n));
        }
        Land.refused(NONE, "to before from", b -> b.order(5, 4, 20));
        Land.emptied(-1001, "one byte", b -> b.order(0, 499, 1));
        Land.emptied(-1018, "a FAULT at the end of some", b -> b.order(0, 499, 18));
        due("only the first six bytes", Land.make().order(0, 499, 6), 2);
        textOfSomeBytes();
        thirtyOrders();
    }

    private static void textOfSomeBytes() {
        String most = "b(w=1" + "+1".repeat(77) + ")";
        UtilityBoard b = new UtilityBoard();
        due("160 bytes", Due.order(b, 0, 499, most), 0);
        due("160 bytes with a FAULT at the last", Due.order(b, 0, 499, most.substring(0, 159) + "+"), -1160);
        due("160 bytes with a FAULT at its end", Due.order(b, 0, 499, "b(w=01" + "+1".repeat(77)), -1160);
        Due.feed(b, (most + ";").chars().toArray());
        due("161 bytes are too many", b.order(0, 499, 161), NONE);
        due("the tape stays", b.count(10), 180);
        due("160 of them stand", b.order(0, 499, 160), 1);
        due("all are gone", b.count(10), 0);
        due("none are left", b.order(0, 499, 1), NONE);
        due("one byte is a FAULT at place 1", Due.order(b, 0, 499, "b"), -1001);
        due("a FAULT at place 0", Due.order(b, 0, 499, "?"), -1000);
        due("no ORDER came of these", b.count(5), 2);
    }

    private static void thirtyOrders() {
        UtilityBoard b = new UtilityBoard();
        for (int i = 0; i < 30; i++) {
            due("order " + i, Due.order(b, 0, 0, "x0.0"), i);
        }
        Due.feed(b, "x0.0".chars().toArray());
        due("a 31st", b.order(0, 0, 4), NONE);
        due("a 31st with a FAULT", b.order(0, 0, 5), NONE);
        due("the tape stays", b.count(10), 20);
        due("30 are there", b.count(5), 30);
        due("the 30th stands", b.count(49), 1);
        due("no ORDER 30", b.count(50), NONE);
        due("without the 30th", b.beside(29), 0);
        due("not without a 31st", b.beside(30), NONE);
    }

    private static void promise18Number() {
        Doc.sentence("Promise 18", "THE NUMBER for a THING and a MAKER (NONE: none; both NONE for g) on a WEEK as KNOWN on t, "
            + "which 0 p, 1 c (NONE: none), 2 g, 3 d, 4 whether some m lets the MARK (1, 0), "
            + "5 whether some b bars (1, 0); NONE: no such ones.");
        UtilityBoard b = Land.make();
        int[] coat = {2, 60, 5, 10, 0, 0};
        int[] chair = {0, NONE, 5, 10, 0, 0};
        int[] wrong = {-1, 6, LOW, HIGH};
        for (int which = 0; which < 6; which++) {
            due("which " + which + " of a coat", b.number(which, which == 2 ? NONE : 0, NONE, 2, 2), coat[which]);
            due("which " + which + " of a chair", b.number(which, which == 2 ? NONE : 1, NONE, 2, 2), chair[which]);
        }
        for (int which : wrong) {
            due("which " + which, b.number(which, 0, NONE, 2, 2), NONE);
            due("which " + which + " of none", b.number(which, NONE, NONE, 2, 2), NONE);
        }
        due("m by MAKER 0", b.number(4, 0, 0, 2, 2), 1);
        due("m by MAKER 1", b.number(4, 0, 1, 2, 2), 0);
        due("b by MAKER 0", b.number(5, 2, 0, 2, 2), 0);
        due("b by MAKER 1", b.number(5, 2, 1, 2, 2), 1);
        for (int which = 0; which < 6; which++) {
            weeksOf(which);
        }
        due("g of a THING", b.number(2, 0, NONE, 2, 2), NONE);
        due("g of a MAKER", b.number(2, NONE, 0, 2, 2), NONE);
        due("g of both", b.number(2, 0, 0, 2, 2), NONE);
        due("g of none", b.number(2, NONE, NONE, 2, 2), 5);
    }

    private static void weeksOf(int which) {
        int x = which == 2 ? NONE : 0;
        UtilityBoard b = Land.make();
        int[] wrong = {-1, 500, -2, LOW, HIGH};
        for (int w : wrong) {
            due("which " + which + " on week " + w, b.number(which, x, NONE, w, 2), NONE);
            due("which " + which + " known on " + w, b.number(which, x, NONE, 2, w), NONE);
        }
        int[] makers = {-2, 2, 12, LOW, HIGH};
        for (int m : makers) {
            due("which " + which + " by MAKER " + m, b.number(which, x, m, 2, 2), NONE);
        }
        int due = new int[] {2, 60, 5, 10, 0, 0}[which];
        due("which " + which + " on week 0, known on 0", b.number(which, x, NONE, 0, 0), due);
        due("which " + which + " on week 499, known on 499", b.number(which, x, NONE, 499, 499), due);
    }

    private static void promise18OfAThing() {
        Doc.sentence("Promise 18", "(0 to 1, 3 to 5: a THING.)");
        UtilityBoard b = Land.make();
        int[] things = {NONE, -2, 3, 30, LOW, HIGH};
        for (int which = 0; which < 6; which++) {
            for (int x : things) {
                boolean g = which == 2 && x == NONE;
                due("which " + which + " of THING " + x, b.number(which, x, NONE, 2, 2), g ? 5 : NONE);
                due("which " + which + " of THING " + x + " by MAKER 0", b.number(which, x, 0, 2, 2), NONE);
            }
        }
    }

    private static void promise19Why() {
        Doc.sentence("Promise 19", "WHY THING x may not be made by MAKER m now, what 0 the ORDER, 1 the CLAUSE; "
            + "NONE: it may, no such ones.");
        UtilityBoard b = Land.make();
        due("the ORDER", b.why(2, 1, 0), 1);
        due("the CLAUSE", b.why(2, 1, 1), 0);
        due("it may: the ORDER", b.why(2, 0, 0), NONE);
        due("it may: the CLAUSE", b.why(2, 0, 1), NONE);
        int[] wrong = {-1, 3, -2, LOW, HIGH};
        for (int v : wrong) {
            due("no THING " + v, b.why(v, 1, 0), NONE);
            due("no MAKER " + v, b.why(2, v, 0), NONE);
            due("no what " + v, b.why(2, 1, v), NONE);
        }
        due("no MAKER 2", b.why(2, 2, 0), NONE);
        due("no what 2", b.why(2, 1, 2), NONE);
        Due.order(emptyTape(b), 0, 499, "b(w=w)");
        due("all are barred", b.why(0, 0, 0), 2);
        for (int v : wrong) {
            due("barred, but no THING " + v, b.why(v, 0, 0), NONE);
            due("barred, but no MAKER " + v, b.why(0, v, 0), NONE);
            due("barred, but no what " + v, b.why(0, 0, v), NONE);
        }
    }

    private static void promise20Makes() {
        Doc.sentence("Promise 20", "MAKER m MAKES n (1 to 10000) of THING x: how many of it, MARKED or not together, "
            + "are in the SHOPS then; -2: a b bars it; -3: MARKED, and no m lets it; -4: too few YARDS; "
            + "-5: above PLANT or HANDS (the first of these); "
            + "NONE: no such ones, above 1000000 MARKED (or unmarked) ones of it in the SHOPS.");
        Land.range("maker", 0, 1, NONE, (b, v) -> b.makes(v, 1, 1, false));
        Land.range("thing", 0, 2, NONE, (b, v) -> b.makes(0, v, 1, false));
        Land.range("n", 1, 10000, NONE, (b, v) -> b.makes(0, 1, v, false));
        due("both together", Land.make().makes(0, 0, 1, false), 3 + 3 + 1);
        due("both together, MARKED", Land.make().makes(0, 0, 1, true), 3 + 3 + 1);
        Land.refused(-2, "barred", b -> b.makes(1, 2, 1, false));
        Land.refused(-2, "barred, and no m", b -> b.makes(1, 2, 1, true));
        Land.refused(-2, "barred, and above PLANT", b -> b.makes(1, 2, 10000, true));
        Land.refused(-3, "no m", b -> b.makes(1, 1, 1, true));
        Land.refused(-3, "no m, and no YARDS", b -> b.makes(1, 0, 1, true));
        Land.refused(-3, "no m, and above PLANT", b -> b.makes(1, 1, 10000, true));
        Land.refused(-4, "no YARDS", b -> b.makes(1, 0, 1, false));
        Land.refused(-4, "no YARDS, and above PLANT", b -> b.makes(1, 0, 10000, false));
        Land.refused(-4, "79 YARDS for 27 coats of 3", b -> b.makes(0, 0, 27, false));
        due("79 YARDS for 26 coats", Land.make().makes(0, 0, 26, false), 32);
        Land.refused(-5, "5 were made, 36 of 40 more", b -> b.makes(0, 2, 36, false));
        due("5 were made, 35 of 40 more", Land.make().makes(0, 2, 35, false), 40);
        Land.refused(-5, "81 above PLANT, not above HANDS", b -> b.makes(1, 1, 81, false));
        due("80 of PLANT", Land.make().makes(1, 1, 80, false), 86);
        inTheShops(false);
        inTheShops(true);
    }

    private static void inTheShops(boolean marked) {
        UtilityBoard b = new UtilityBoard();
        b.cloth(100, 1, 1);
        b.thing(2, NONE, 0, 1);
        b.thing(0, 0, 0, 1);
        Due.order(b, 0, 499, "m(w<90);b(w>89)");
        for (int m = 0; m < 12; m++) {
            b.maker(0, 10000, 1000, 100, 0);
        }
        int made = 0;
        while (made < 99) {
            for (int m = 0; m < 12 && made < 99; m++) {
                made++;
                due("in the shops", b.makes(m, 0, 10000, marked), made * 10000);
            }
            b.goes();
        }
        due("up to 999999", b.makes(0, 0, 9999, marked), 999999);
        due("two more would be above", b.makes(1, 0, 2, marked), NONE);
        due("one more is not", b.makes(1, 0, 1, marked), 1000000);
        due("one more", b.makes(1, 0, 1, marked), NONE);
        due("10000 more", b.makes(1, 0, 10000, marked), NONE);
        due("it was not made", b.look(101, 0), 1);
        due("1000000 are there", b.count(marked ? 200 : 100), 1000000);
        due("the others are counted apart", b.makes(1, 0, 1, !marked), 1000001);
        due("another THING is too", b.makes(1, 1, 1, marked), -4);
        for (int i = 0; i < 90; i++) {
            b.goes();
        }
        due("no such ones before the first of these", b.makes(1, 0, 1, marked), NONE);
    }

    private static void promise21Person() {
        Doc.sentence("Promise 21", "A PERSON with a PURSE: the number; NONE: no such one, 40 are there.");
        Land.range("purse", 0, 1000000, NONE, (b, v) -> b.person(v));
        UtilityBoard full = new UtilityBoard();
        for (int i = 0; i < 40; i++) {
            due("person " + i, full.person(i), i);
        }
        due("a 41st", full.person(0), NONE);
        due("40 are there", full.count(6), 40);
        due("the 40th stands", full.look(39, 1), 39);
        due("no PERSON 40", full.look(40, 1), NONE);
    }

    private static void promise22Price() {
        Doc.sentence("Promise 22", "The PRICE of THING x: true; false: no such ones.");
        Land.range("thing", 0, 2, false, (b, v) -> b.price(v, 5));
        Land.range("farthings", 1, 100000, false, (b, v) -> b.price(1, v));
        UtilityBoard b = Land.make();
        due("9 as told, of which the shops have no farthing", b.loses(0, 2), 10 - 9);
        due("9 again", b.price(2, 9), true);
        due("the least", b.price(2, 1), true);
        due("1 now", b.loses(0, 2), 10 - 1);
        due("the most", b.price(2, 100000), true);
        due("100000 now", b.loses(0, 2), 10 - (100000 - 10000));
    }

    private static void promise23Buys() {
        Doc.sentence("Promise 23", "PERSON o BUYS one of THING x: the price paid; -2: there is none such; "
            + "-3: too few POINTS; -4: too little in the PURSE (the first of these); NONE: no such ones.");
        Land.range("person", 0, 1, NONE, (b, v) -> b.buys(v, 2, false));
        Land.range("thing", 0, 2, NONE, (b, v) -> b.buys(1, v, false));
        due("the price paid", Land.make().buys(1, 0, false), 60);
        Land.refused(-2, "no MARKED chair", b -> b.buys(1, 1, true));
        Land.refusedAfter(b -> Due.order(emptyTape(b), 0, 499, "p11(k=0)"), -3, "too few by one", b -> b.buys(1, 0, false));
        UtilityBoard b = Land.make();
        Due.order(emptyTape(b), 0, 499, "p10(k=0)");
        due("just enough POINTS", b.buys(1, 0, false), 60);
        due("none are left", b.look(1, 0), 0);
        Land.refusedAfter(c -> c.price(2, 901), -4, "too little by one", c -> c.buys(1, 2, false));
        UtilityBoard c = Land.make();
        c.price(2, 900);
        due("just enough in the PURSE", c.buys(1, 2, false), 900);
        due("nothing is left", c.look(1, 1), 0);
        due("nothing for one of 1", c.buys(1, 1, false), -4);
        firstOfThese();
    }

    private static UtilityBoard emptyTape(UtilityBoard b) {
        b.check(0);
        return b;
    }

    private static void firstOfThese() {
        UtilityBoard b = Land.make();
        b.price(2, 100000);
        Due.order(emptyTape(b), 0, 499, "p99999(k=2)");
        due("none, no POINTS, no farthings", b.buys(1, 2, true), -2);
        due("no POINTS, no farthings", b.buys(1, 2, false), -3);
        Due.order(b, 0, 499, "p0(k=2)");
        due("no farthings", b.buys(1, 2, false), -4);
        Due.order(b, 0, 499, "c0(k=2)");
        due("for nothing", b.buys(1, 2, false), 0);
        due("the PURSE stays", b.look(1, 1), 900);
        for (int left = 4; left > 0; left--) {
            due("one of " + left, b.buys(1, 2, false), 0);
        }
        due("the last is bought", b.buys(1, 2, false), -2);
    }

    private static void promise24Gone() {
        Doc.sentence("Promise 24", "GONE; NONE: none is there, no such ones.");
        Land.range("thing", 0, 2, NONE, (b, v) -> b.gone(v, 1));
        Land.range("n", 1, 100000, NONE, (b, v) -> b.gone(1, v));
        UtilityBoard b = Land.make();
        due("6 chairs, one a week", b.gone(1, 1), 7);
        due("6 chairs, 5 a week", b.gone(1, 5), 3);
        due("6 chairs, 6 a week", b.gone(1, 6), 2);
        due("3 MARKED and 3 other coats", b.gone(0, 3), 3);
        for (int i = 0; i < 5; i++) {
            due("one is there", b.gone(2, 1), 6 - i);
            b.buys(1, 2, false);
        }
        due("none is there", b.gone(2, 1), NONE);
        b.thing(2, NONE, 0, 1);
        due("none is there of a new one", b.gone(3, 1), NONE);
    }

    private static void promise25Docket() {
        Doc.sentence("Promise 25", "A DOCKET: its number; NONE: no such ones, 60 are there.");
        Land.range("person", 0, 1, NONE, (b, v) -> b.docket(v, 0, 0, 0));
        Land.range("thing", 0, 2, NONE, (b, v) -> b.docket(0, v, 0, 0));
        Land.range("since", 0, 2, NONE, (b, v) -> b.docket(0, 0, v, 0));
        Land.range("weight", 0, 99, NONE, (b, v) -> b.docket(0, 0, 0, v));
        UtilityBoard b = Land.make();
        for (int i = 4; i < 60; i++) {
            due("docket " + i, b.docket(0, 1, 0, 0), i);
        }
        due("a 61st", b.docket(0, 1, 0, 0), NONE);
        due("60 are there", b.count(7), 60);
        due("the 60th stands", b.waits(59, 1), 55);
        due("no DOCKET 60", b.waits(60, 1), NONE);
        b.buys(0, 1, false);
        due("closed ones leave no room", b.docket(0, 1, 0, 0), NONE);
    }

    private static void promise26First() {
        Doc.sentence("Promise 26", "The i-th open DOCKET for THING x in their ORDER; NONE: there is none such.");
        UtilityBoard b = Land.make();
        due("the 0th", b.first(0, 0), 3);
        due("the 1st", b.first(0, 1), 1);
        due("the closed one is none", b.first(0, 2), NONE);
        int[] wrong = {-1, -2, 4, 60, LOW, HIGH};
        for (int v : wrong) {
            due("no " + v, b.first(0, v), NONE);
            due("of no THING " + v, b.first(v, 0), NONE);
        }
        due("of a THING without one", b.first(1, 0), NONE);
        due("of another THING", b.first(2, 0), 2);
        due("of another THING, one more", b.first(2, 1), NONE);
    }

    private static void promise27Waits() {
        Doc.sentence("Promise 27", "How many WEEKS DOCKET k waits, if from NOW on each WEEK so many (1 to 100) are served "
            + "in their ORDER (0: this one); NONE: no such ones, not open.");
        Land.range("docket", 1, 3, NONE, (b, v) -> b.waits(v, 1));
        Land.range("n", 1, 100, NONE, (b, v) -> b.waits(3, v));
        UtilityBoard b = Land.make();
        due("not open", b.waits(0, 1), NONE);
        due("this WEEK", b.waits(3, 1), 0);
        due("the next WEEK", b.waits(1, 1), 1);
        due("two a WEEK", b.waits(1, 2), 0);
        for (int i = 4; i < 60; i++) {
            b.docket(1, 0, 2, 0);
        }
        due("57 before it, one a WEEK", b.waits(59, 1), 57);
        due("57 before it, 57 a WEEK", b.waits(59, 57), 1);
        due("57 before it, 58 a WEEK", b.waits(59, 58), 0);
        due("57 before it, 100 a WEEK", b.waits(59, 100), 0);
        b.buys(1, 0, false);
        due("closed now", b.waits(59, 1), NONE);
        due("the only one", b.waits(3, 1), 0);
    }

    private static void promise28Bombed() {
        Doc.sentence("Promise 28", "PERSON o is BOMBED: how many DOCKETS have another WEIGHT then; NONE: no such one.");
        int[] wrong = {-1, 2, 40, LOW, HIGH};
        for (int o : wrong) {
            Land.refused(NONE, "no PERSON " + o, b -> b.bombed(o));
        }
        UtilityBoard b = Land.make();
        due("two", b.bombed(1), 2);
        due("they have it", b.bombed(1), 0);
        due("the closed one has not", b.bombed(0), 1);
        b.person(0);
        due("a PERSON without DOCKETS", b.bombed(2), 0);
        b.docket(2, 0, 0, 99);
        due("a DOCKET that has 99", b.bombed(2), 0);
        b.docket(2, 0, 0, 98);
        due("one of 98", b.bombed(2), 1);
    }

    private static void promise29Seen() {
        Doc.sentence("Promise 29", "SEEN: true; false: no such ones, 100 were told.");
        Land.range("thing", 0, 2, false, (b, v) -> b.seen(v, 0, 1));
        Land.range("week", 0, 2, false, (b, v) -> b.seen(0, v, 1));
        Land.range("n", 1, 100000, false, (b, v) -> b.seen(0, 0, v));
        UtilityBoard b = Land.make();
        for (int i = 2; i < 99; i++) {
            due("seen " + i, b.seen(0, 0, 1), true);
        }
        due("the 100th", b.seen(1, 0, 70), true);
        due("a 101st", b.seen(1, 0, 100000), false);
        due("100 were told", b.count(8), 100);
        due("the 100th counts, a 101st does not", b.falsely(1), 70);
    }

    private static void promise30Falsely() {
        Doc.sentence("Promise 30", "FALSELY MARKED at least of THING x (0: none surely); NONE: no such one.");
        Land.range("thing", 0, 2, NONE, (b, v) -> b.falsely(v));
        UtilityBoard b = Land.make();
        due("9 seen, 4 made by week 1", b.falsely(0), 5);
        due("none seen", b.falsely(1), 0);
        due("one seen, none made", b.falsely(2), 1);
        UtilityBoard c = new UtilityBoard();
        c.thing(2, NONE, 0, 1);
        c.maker(0, 10, 10, 10, 0);
        c.named(0, true);
        Due.order(c, 0, 499, "m(w=w)");
        c.makes(0, 0, 5, true);
        c.seen(0, 0, 4);
        due("fewer than were made", c.falsely(0), 0);
        c.seen(0, 0, 5);
        due("just as many", c.falsely(0), 0);
        c.seen(0, 0, 6);
        due("one more", c.falsely(0), 1);
        c.seen(0, 0, 100000);
        due("the most", c.falsely(0), 99995);
    }

    private static void promise31Rubbed() {
        Doc.sentence("Promise 31", "RUBBED: true; false: no such ones, 100 were told.");
        Land.range("cloth", 0, 1, false, (b, v) -> b.rubbed(v, 1, true));
        Land.range("turns", 1, 100000, false, (b, v) -> b.rubbed(0, v, false));
        UtilityBoard b = Land.make();
        due("true before", b.isTrue(0, 2), 1);
        for (int i = 3; i < 99; i++) {
            due("rubbed " + i, b.rubbed(0, 100000, i % 2 == 0), true);
        }
        due("the 100th", b.rubbed(0, 4500, true), true);
        due("a 101st", b.rubbed(0, 1, true), false);
        due("100 were told", b.count(9), 100);
        due("true still", b.isTrue(0, 2), 1);
        UtilityBoard c = Land.make();
        for (int i = 3; i < 99; i++) {
            c.rubbed(0, 100000, false);
        }
        c.rubbed(0, 4499, true);
        due("the 100th counts", c.isTrue(0, 2), 0);
    }

    private static void promise32Bench() {
        Doc.sentence("Promise 32", "TURNS a week are n: true; false: no such number.");
        Land.range("turns a week", 1, 1000, false, (b, v) -> b.bench(v));
        UtilityBoard b = Land.make();
        due("50 at first", b.isTrue(0, 2), 1);
        due("51", b.bench(51), true);
        due("51 are too many for 4500 turns", b.isTrue(0, 2), 0);
        due("1001", b.bench(1001), false);
        due("51 still", b.isTrue(0, 2), 0);
        due("50 again", b.bench(50), true);
        due("50 once more", b.bench(50), true);
        due("true again", b.isTrue(0, 2), 1);
        due("the least", b.bench(1), true);
        due("one turn of 7", b.isTrue(1, 2), 0);
    }

    private static void promise33IsTrue() {
        Doc.sentence("Promise 33", "Whether a CLOTH is TRUE as KNOWN on t: 1, 0 FALSE, 2 not known; NONE: no such ones.");
        Land.range("cloth", 0, 1, NONE, (b, v) -> b.isTrue(v, 2));
        Land.range("t", 0, 499, NONE, (b, v) -> b.isTrue(0, v));
        UtilityBoard b = Land.make();
        due("TRUE", b.isTrue(0, 2), 1);
        due("TRUE on 499", b.isTrue(0, 499), 1);
        due("not known on 1", b.isTrue(0, 1), 2);
        due("FALSE", b.isTrue(1, 2), 0);
        due("FALSE was not known on 1", b.isTrue(1, 1), 2);
        b.cloth(400, 1, 1);
        due("none was RUBBED", b.isTrue(2, 499), 2);
    }

    private static void promise34Needs() {
        Doc.sentence("Promise 34", "HANDS that a set of told MAKERS NEEDS for so many pieces; -2: it MAY not DO them; "
            + "NONE: no such ones (more than eight told, none in the set, others in it).");
        Land.range("pieces", 1, 100000, NONE, (b, v) -> b.needs(3, 3, v));
        UtilityBoard b = Land.make();
        due("the greatest rate first", b.needs(3, 3, 90), 16 + 3);
        due("PLANT and one more", b.needs(2, 2, 81), -2);
        due("PLANT", b.needs(2, 2, 80), 16);
        due("none in the set", b.needs(3, 0, 1), NONE);
        due("none told, none in the set", b.needs(0, 0, 1), NONE);
        due("others in it", b.needs(1, 2, 1), NONE);
        due("others in it, too", b.needs(1, 3, 1), NONE);
        due("others in it, none told", b.needs(0, 1, 1), NONE);
        int[] wrong = {4, 7, 8, 0x1000, -1, -4, LOW, HIGH};
        for (int told : wrong) {
            due("no such MAKERS told " + told, b.needs(told, 1, 1), NONE);
            due("no such MAKERS told and set " + told, b.needs(told, told, 1), NONE);
            due("no such MAKERS in the set " + told, b.needs(3, told, 1), NONE);
        }
        UtilityBoard c = twelveMakers();
        due("eight told", c.needs(0xff, 0xff, 1), 1);
        due("the last eight told", c.needs(0xff0, 0x800, 1), 1);
        due("nine told", c.needs(0x1ff, 1, 1), NONE);
        due("nine of twelve told", c.needs(0xfb3, 1, 1), NONE);
        due("twelve told", c.needs(0xfff, 1, 1), NONE);
    }

    private static UtilityBoard twelveMakers() {
        UtilityBoard b = new UtilityBoard();
        for (int i = 0; i < 12; i++) {
            b.maker(i % 8, 10, 2, 10, 0);
        }
        return b;
    }

    private static void promise35Fewest() {
        Doc.sentence("Promise 35", "FEWEST: the set (town NONE: none is told); NONE: there is none, no such ones.");
        Land.range("pieces", 1, 130, NONE, (b, v) -> b.fewest(3, v, NONE));
        UtilityBoard b = Land.make();
        due("no TOWN is told", b.fewest(3, 40, NONE), 2);
        due("a TOWN is told", b.fewest(3, 40, 2), 3);
        due("a TOWN that none has", b.fewest(3, 40, 0), NONE);
        due("a TOWN that none has, too", b.fewest(3, 40, 7), NONE);
        int[] towns = {-2, 8, LOW, HIGH};
        for (int town : towns) {
            due("no TOWN " + town, b.fewest(3, 40, town), NONE);
        }
        int[] wrong = {0, 4, 7, 0x1000, -1, -4, LOW, HIGH};
        for (int told : wrong) {
            due("no such MAKERS told " + told, b.fewest(told, 1, NONE), NONE);
        }
        due("just PLANT of both", b.fewest(3, 130, NONE), 3);
        due("PLANT of both and one more", b.fewest(3, 131, NONE), NONE);
        due("too few HANDS", b.fewest(1, 41, NONE), NONE);
        due("100000 are too many", b.fewest(3, 100000, NONE), NONE);
        due("100001 are no such ones", b.fewest(3, 100001, NONE), NONE);
        UtilityBoard c = twelveMakers();
        due("eight told", c.fewest(0xff0, 80, NONE), 0xff0);
        due("nine told", c.fewest(0x1ff, 1, NONE), NONE);
        due("twelve told", c.fewest(0xfff, 1, NONE), NONE);
        due("the highest alone", c.fewest(0x800, 10, 3), 0x800);
    }

    private static void promise36Loses() {
        Doc.sentence("Promise 36", "What MAKER m LOSES on THING x; -1000000000: no such ones.");
        Land.range("maker", 0, 1, NO_LOSS, (b, v) -> b.loses(v, 1));
        Land.range("thing", 0, 2, NO_LOSS, (b, v) -> b.loses(0, v));
        due("a coat", Land.make().loses(0, 0), 216 + 10 - (60 - 6));
        UtilityBoard b = new UtilityBoard();
        b.cloth(100, 1, 10000);
        b.thing(0, 0, 0, 10000);
        b.maker(0, 1, 0, 1, 10000);
        due("the most", b.loses(0, 0), 2777778 + 10000 - 1);
        b.thing(2, NONE, 0, 1);
        b.maker(0, 1, 0, 1, 0);
        b.price(1, 100000);
        due("the least", b.loses(1, 1), -100000);
    }

    private static void promise37Beside() {
        Doc.sentence("Promise 37", "BESIDE without ORDER i (NONE: with all); NONE: no such one.");
        Land.range("order", NONE, 1, -1, (b, v) -> b.beside(v));
        UtilityBoard b = Land.make();
        due("with all", b.beside(NONE), 3);
        b.named(0, false);
        Due.order(emptyTape(b), 0, 499, "b(k=2&t=2);b(k=1)");
        due("with all three", b.beside(NONE), 1);
        due("without the last", b.beside(2), 3);
        due("without ORDER 1", b.beside(1), 2);
        due("without ORDER 0", b.beside(0), 1);
        due("no ORDER 3", b.beside(3), NONE);
        UtilityBoard c = new UtilityBoard();
        due("no ORDERS", c.beside(0), NONE);
        due("no THINGS", c.beside(NONE), 0);
        c.thing(2, NONE, 0, 1);
        due("no MAKERS", c.beside(NONE), 0);
    }

    private static void promise38Check() {
        Doc.sentence("Promise 38", "CHECK by the first 3 n numbers of the tape (four bytes each; empty then): NONE: right; "
            + "else the place of the first number that is not so (3 n: some are lacking); "
            + "-2: it has not so many (the tape stays).");
        int[] wrong = {2, 33, 34, -1, LOW, HIGH, 0x15555556, 0x55555555, 0x55555556};
        for (int n : wrong) {
            Land.refused(-2, n + " threes of twenty bytes", b -> b.check(n));
        }
        Land.emptied(0, "none, and some are lacking", b -> b.check(0));
        Land.emptied(0, "the first is not so", b -> b.check(1));
        int[] right = {0, 0, 3, 0, 1, 3, 1, 0, 6, 2, 0, 5};
        for (int n = 0; n < 4; n++) {
            check("only " + n, n, 3 * n, right);
        }
        check("right", 4, NONE, right);
        check("one more", 5, 12, 0, 0, 3, 0, 1, 3, 1, 0, 6, 2, 0, 5, 3, 0, 1);
        check("one more of the last", 5, 12, 0, 0, 3, 0, 1, 3, 1, 0, 6, 2, 0, 5, 2, 1, 0);
        for (int i = 0; i < 12; i++) {
            int[] not = right.clone();
            not[i] ^= i % 2 == 0 ? LOW : 1;
            check("not so at " + i, 4, i, not);
            check("not so at " + i + ", and lacking", 3, Math.min(9, i), not);
        }
        check("MARKED ones first", 4, 1, 0, 1, 3, 0, 0, 3, 1, 0, 6, 2, 0, 5);
        UtilityBoard b = new UtilityBoard();
        due("nothing in the shops, nothing told", b.check(0), NONE);
        for (int i = 0; i < 20; i++) {
            b.feed(0, 0, 0, 0, 0);
        }
        due("34 threes of 400 bytes", b.check(34), -2);
        due("400 stay", b.count(10), 400);
        due("33 threes, where none are", b.check(33), 0);
        due("the whole tape is empty", b.count(10), 0);
        b.feed(0, 0, 0, 0, 0);
        due("two threes of twenty bytes", b.check(2), -2);
        b.feed(0, 0, 0, 0, 0);
        due("three threes of forty bytes", b.check(3), 0);
    }

    private static void check(String what, int n, int want, int... numbers) {
        UtilityBoard b = emptyTape(Land.make());
        for (int i = 0; i < numbers.length; i += 5) {
            int[] five = Arrays.copyOfRange(numbers, i, i + 5);
            b.feed(five[0], five[1], five[2], five[3], five[4]);
        }
        due(what, b.check(n), want);
        due("the tape then", b.count(10), 0);
    }

    private static void promise39Look() {
        Doc.sentence("Promise 39", "Of PERSON who, what 0 POINTS, 1 PURSE; of MAKER m (who 100 + m): "
            + "pieces made this WEEK (what 0), or YARDS of CLOTH what - 1.");
        UtilityBoard b = Land.make();
        due("POINTS", b.look(0, 0), 8);
        due("PURSE", b.look(0, 1), 140);
        due("POINTS of the last", b.look(1, 0), 10);
        due("PURSE of the last", b.look(1, 1), 900);
        due("made this WEEK", b.look(100, 0), 5);
        due("made in a WEEK before", b.look(101, 0), 0);
        due("YARDS of CLOTH 0", b.look(100, 1), 79);
        due("YARDS of CLOTH 1", b.look(101, 2), 7);
        due("no YARDS of CLOTH 1", b.look(100, 2), 0);
    }

    private static void promise39Others() {
        Doc.sentence("Promise 39", "NONE for others.");
        UtilityBoard b = Land.make();
        int[] who = {-1, 2, 39, 40, 99, 102, 111, 112, 200, LOW, LOW + 50, LOW + 100, HIGH};
        for (int w : who) {
            for (int what = -1; what < 4; what++) {
                due("look(" + w + ", " + what + ")", b.look(w, what), NONE);
            }
        }
        int[] ofPersons = {-1, 2, 3, 100, LOW, HIGH};
        for (int what : ofPersons) {
            due("look(1, " + what + ")", b.look(1, what), NONE);
        }
        int[] ofMakers = {-1, 3, 20, 21, LOW, HIGH};
        for (int what : ofMakers) {
            due("look(101, " + what + ")", b.look(101, what), NONE);
        }
        UtilityBoard full = twelveMakers();
        for (int i = 0; i < 20; i++) {
            full.cloth(100 + i, 1, 1);
        }
        full.yards(11, 19, 10000);
        due("the last CLOTH of the last MAKER", full.look(111, 20), 10000);
        due("no CLOTH 20", full.look(111, 21), NONE);
    }

    private static void promise40Count() {
        Doc.sentence("Promise 40", "0 NOW, 1 CLOTHS, 2 DRAWINGS, 3 THINGS, 4 MAKERS, 5 ORDERS, 6 PERSONS, 7 DOCKETS, "
            + "8 SEEN ones, 9 RUBBED ones, 10 bytes of the tape; 20 + i CLAUSES of ORDER i; "
            + "100 + x unmarked ones of THING x in the SHOPS, 200 + x MARKED ones.");
        UtilityBoard b = Land.make();
        int[] plain = {2, 2, 2, 3, 2, 2, 2, 4, 2, 3, 20};
        for (int what = 0; what < plain.length; what++) {
            due("count(" + what + ")", b.count(what), plain[what]);
        }
        due("CLAUSES of ORDER 0", b.count(20), 5);
        due("CLAUSES of ORDER 1", b.count(21), 1);
        int[] unmarked = {3, 6, 5};
        int[] marked = {3, 0, 0};
        for (int x = 0; x < 3; x++) {
            due("unmarked ones of " + x, b.count(100 + x), unmarked[x]);
            due("MARKED ones of " + x, b.count(200 + x), marked[x]);
        }
    }

    private static void promise40Others() {
        Doc.sentence("Promise 40", "NONE for others.");
        UtilityBoard b = Land.make();
        int[] others = {-1, 11, 19, 22, 49, 50, 99, 103, 129, 130, 199, 203, 229, 230, 300, -256, LOW, LOW + 20,
            LOW + 100, LOW + 200, HIGH};
        for (int what : others) {
            due("count(" + what + ")", b.count(what), NONE);
        }
    }
}
