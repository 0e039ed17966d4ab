import java.util.Arrays;

/** The terms of the document but for texts (section 2), sentence by sentence: the bounds that each of them names. */
public final class TermsBoundaryTest {
    private static final int NONE = UtilityBoard.NONE;
    private static final int LOW = Integer.MIN_VALUE;
    private static final int HIGH = Integer.MAX_VALUE;

    public static void main(String[] args) {
        section0Calls();
        section1Weeks();
        section1Towns();
        section1Cloths();
        section1Drawings();
        section1Things();
        section1Makers();
        section1Makes();
        section1Shops();
        section1Persons();
        section3Patterns();
        section3Laid();
        section3TheLeast();
        section3Drawing();
        section3Floor();
        section3Loads();
        section3Bears();
        section3TheCheapest();
        section3Rubbed();
        section3LeastTurns();
        section3Known();
        section4Prices();
        section4Points();
        section4Gone();
        section4Dockets();
        section4TheirOrder();
        section4Bombed();
        section4Seen();
        section4FalselyMarked();
        section5PutTogether();
        section5MayDo();
        section5Fewest();
        section5Loses();
        section5Gains();
        section5Beside();
        section5Check();
        section6Memory();
        section6Refused();
        section6Constants();
        Doc.nothingIsLeftOf("0", "1", "3", "4", "5", "6");
        Due.finish();
    }

    private static void due(String call, long got, long want) {
        Due.due(call, got, want);
    }

    private static void due(String call, boolean got, boolean want) {
        Due.due(call, got, want);
    }

    private static void goesTo(UtilityBoard b, int week) {
        for (int w = b.count(0); w < week; w++) {
            b.goes();
        }
    }

    // ---- section 0

    private static void section0Calls() {
        Doc.sentence("0", "An object is used for at most 512 calls after it has been made; what later calls answer is free.");
        UtilityBoard b = new UtilityBoard();
        b.thing(2, NONE, 0, 1);
        b.maker(0, 10000, 1000, 100, 0);
        b.named(0, true);
        Due.order(b, 0, 499, "m(w=w)");
        b.seen(0, 0, 100000);
        for (int call = 7; call < 511; call++) {
            due("makes, call " + call, b.makes(0, 0, 1, true), call - 6);
        }
        due("call 511", b.falsely(0), 100000 - 504);
        due("call 512", b.count(200), 504);
        UtilityBoard c = new UtilityBoard();
        c.thing(2, NONE, 0, 1);
        c.maker(0, 10000, 1000, 100, 0);
        c.person(1000000);
        Due.order(c, 0, 499, "m(w=w)");
        c.makes(0, 0, 10000, true);
        for (int call = 7; call < 511; call++) {
            due("buys, call " + call, c.buys(0, 0, true), 1);
        }
        due("call 511", c.seen(0, 0, 1), true);
        due("call 512", c.falsely(0), 1 + 504);
    }

    // ---- section 1

    private static void section1Weeks() {
        Doc.sentence("1", "WEEKS 0 to 499; NOW is one of them (0 at first), never back.");
        UtilityBoard b = new UtilityBoard();
        b.thing(2, NONE, 0, 1);
        b.person(0);
        due("0 at first", b.count(0), 0);
        due("WEEK 1 is behind NOW", b.seen(0, 1, 1), false);
        goesTo(b, 499);
        due("499 at last", b.count(0), 499);
        due("no WEEK 500", b.goes(), NONE);
        due("not back", b.count(0), 499);
        due("SEEN in WEEK 499", b.seen(0, 499, 1), true);
        due("SEEN in WEEK 500", b.seen(0, 500, 1), false);
        due("since WEEK 499", b.docket(0, 0, 499, 0), 0);
        due("since WEEK 500", b.docket(0, 0, 500, 0), NONE);
        Land.range("week", 0, 499, NONE, (c, v) -> c.number(2, NONE, NONE, v, 2));
        Land.range("t", 0, 499, NONE, (c, v) -> c.number(2, NONE, NONE, 2, v));
        Land.range("t of a CLOTH", 0, 499, NONE, (c, v) -> c.isTrue(0, v));
    }

    private static void section1Towns() {
        Doc.sentence("1", "TOWNS 0 to 7.");
        Land.range("town", 0, 7, NONE, (b, v) -> b.maker(v, 1, 1, 1, 1));
        UtilityBoard b = new UtilityBoard();
        b.maker(0, 1, 1, 1, 1);
        b.maker(7, 1, 1, 1, 1);
        due("TOWN 0", b.fewest(3, 1, 0), 1);
        due("TOWN 7", b.fewest(3, 1, 7), 2);
        due("TOWN 8", b.fewest(3, 1, 8), NONE);
        due("TOWN -2", b.fewest(3, 1, -2), NONE);
        due("a TOWN of nobody", b.fewest(3, 1, 3), NONE);
        due("no TOWN", b.fewest(3, 1, NONE), 1);
    }

    private static void section1Cloths() {
        Doc.sentence("1", "CLOTHS 0 to 19: a NUMBER (100 to 999, no two alike), a WEAR as told (1 to 1000 weeks), "
            + "a COST (farthings a yard, 1 to 10000).");
        UtilityBoard b = new UtilityBoard();
        int[][] wrong = {{99, 1, 1}, {1000, 1, 1}, {100, 0, 1}, {100, 1001, 1}, {100, 1, 0}, {100, 1, 10001},
            {0, 1, 1}, {-100, 1, 1}, {100 - 65536, 1, 1}, {LOW, LOW, LOW}, {HIGH, HIGH, HIGH}};
        for (int[] w : wrong) {
            due("no CLOTH " + Arrays.toString(w), b.cloth(w[0], w[1], w[2]), NONE);
        }
        due("the least", b.cloth(100, 1, 1), 0);
        due("the most", b.cloth(999, 1000, 10000), 1);
        due("the NUMBER of the first", b.cloth(100, 2, 2), NONE);
        due("the NUMBER of the last", b.cloth(999, 2, 2), NONE);
        for (int i = 2; i < 20; i++) {
            due("WEAR and COST may be alike", b.cloth(99 + i, 1, 1), i);
        }
        due("no CLOTH 20", b.cloth(998, 1, 1), NONE);
        due("CLOTH 19 is there", b.thing(0, 19, 0, 1), 0);
        due("CLOTH 20 is not", b.thing(0, 20, 0, 1), NONE);
    }

    private static void section1Drawings() {
        Doc.sentence("1", "DRAWINGS 0 to 21 of chairs.");
        UtilityBoard b = new UtilityBoard();
        due("none at first", b.thing(1, 0, 0, 1), NONE);
        for (int i = 0; i < 22; i++) {
            due("DRAWING " + i, b.drawing(8), i);
        }
        due("no DRAWING 22", b.drawing(8), NONE);
        due("a chair by the last", b.thing(1, 21, 0, 1), 0);
        due("a chair by none", b.thing(1, 22, 0, 1), NONE);
        due("a coat by a DRAWING", b.thing(0, 21, 0, 1), NONE);
        due("an other by a DRAWING", b.thing(2, 21, 0, 1), NONE);
    }

    private static void section1Things() {
        Doc.sentence("1", "THINGS 0 to 29, what is made and sold: a KIND (0 coat, 1 chair, 2 other), its CLOTH or its DRAWING "
            + "(by the KIND; other: none), POCKETS (0 to 9), INCHES (1 to 10000, for one).");
        UtilityBoard b = new UtilityBoard();
        b.cloth(100, 1, 1);
        b.cloth(101, 1, 1);
        b.drawing(2);
        int[][] wrong = {{-1, NONE, 0, 1}, {3, NONE, 0, 1}, {0, 2, 0, 1}, {1, 1, 0, 1}, {2, 0, 0, 1}, {0, NONE, 0, 1},
            {1, NONE, 0, 1}, {2, -2, 0, 1}, {0, 0, -1, 1}, {0, 0, 10, 1}, {0, 0, 0, 0}, {0, 0, 0, 10001},
            {LOW, LOW, LOW, LOW}, {HIGH, HIGH, HIGH, HIGH}};
        for (int[] w : wrong) {
            due("no THING " + Arrays.toString(w), b.thing(w[0], w[1], w[2], w[3]), NONE);
        }
        due("a coat of the last CLOTH", b.thing(0, 1, 0, 1), 0);
        due("a chair by the only DRAWING", b.thing(1, 0, 9, 10000), 1);
        due("an other", b.thing(2, NONE, 9, 10000), 2);
        for (int i = 3; i < 30; i++) {
            due("they may be alike", b.thing(2, NONE, 9, 10000), i);
        }
        due("no THING 30", b.thing(2, NONE, 9, 10000), NONE);
        due("THING 29 has a price", b.price(29, 1), true);
        due("THING 30 has none", b.price(30, 1), false);
        due("the last is counted", b.count(129), 0);
        due("none behind it", b.count(130), NONE);
    }

    private static void section1Makers() {
        Doc.sentence("1", "MAKERS 0 to 11: a TOWN, a PLANT (1 to 10000 pieces a WEEK at most), HANDS (0 to 1000), "
            + "a RATE (1 to 100 pieces a WEEK by one of HANDS), HIRE (0 to 10000 farthings a WEEK for one of HANDS); "
            + "NAMED or not; each has YARDS of each CLOTH (0 at first, 1000000 at most).");
        UtilityBoard b = new UtilityBoard();
        b.cloth(100, 1, 1);
        int[][] wrong = {{0, 0, 0, 1, 0}, {0, 10001, 0, 1, 0}, {0, 1, -1, 1, 0}, {0, 1, 1001, 1, 0}, {0, 1, 0, 0, 0},
            {0, 1, 0, 101, 0}, {0, 1, 0, 1, -1}, {0, 1, 0, 1, 10001}, {LOW, LOW, LOW, LOW, LOW},
            {HIGH, HIGH, HIGH, HIGH, HIGH}};
        for (int[] w : wrong) {
            due("no MAKER " + Arrays.toString(w), b.maker(w[0], w[1], w[2], w[3], w[4]), NONE);
        }
        due("the least", b.maker(0, 1, 0, 1, 0), 0);
        for (int i = 1; i < 12; i++) {
            due("the most", b.maker(7, 10000, 1000, 100, 10000), i);
        }
        due("no MAKER 12", b.maker(0, 1, 0, 1, 0), NONE);
        due("not NAMED at first", b.named(11, false), false);
        due("NAMED", b.named(11, true), true);
        due("MAKER 12 is not NAMED", b.named(12, true), false);
        due("0 YARDS at first", b.look(111, 1), 0);
        for (int i = 0; i < 100; i++) {
            b.yards(11, 0, 10000);
        }
        due("1000000 YARDS", b.look(111, 1), 1000000);
        due("one YARD more", b.yards(11, 0, 1), NONE);
        due("another MAKER's YARDS", b.look(110, 1), 0);
        b.cloth(101, 1, 1);
        due("another CLOTH's YARDS", b.look(111, 2), 0);
    }

    private static UtilityBoard workshop(int inches, int plant, int hands, int rate) {
        UtilityBoard b = new UtilityBoard();
        b.cloth(100, 1, 1);
        b.drawing(2);
        b.thing(0, 0, 0, inches);
        b.thing(1, 0, 0, inches);
        b.thing(2, NONE, 0, inches);
        b.maker(0, plant, hands, rate, 0);
        return b;
    }

    private static void section1Makes() {
        Doc.sentence("1", "A MAKER MAKES so many of a THING, MARKED or not, at NOW: coats of its YARDS "
            + "(all INCHES together through 36, rounded up); in one WEEK not more, of all THINGS, than PLANT, "
            + "nor than HANDS times RATE.");
        yardsFor(36, 1, 1);
        yardsFor(35, 1, 1);
        yardsFor(37, 1, 2);
        yardsFor(1, 36, 1);
        yardsFor(1, 37, 2);
        yardsFor(12, 3, 1);
        yardsFor(13, 3, 2);
        yardsFor(10000, 36, 10000);
        UtilityBoard most = workshop(10000, 10000, 1000, 100);
        for (int i = 0; i < 100; i++) {
            most.yards(0, 0, 10000);
        }
        due("100000000 INCHES", most.makes(0, 0, 10000, false), -4);
        due("all YARDS", most.makes(0, 0, 3600, false), 3600);
        due("none are left", most.look(100, 1), 0);
        mostInAWeek(10, 1000, 100, 10);
        mostInAWeek(10000, 7, 9, 63);
        mostInAWeek(63, 7, 9, 63);
        mostInAWeek(10000, 1000, 100, 10000);
        UtilityBoard idle = workshop(1, 10, 0, 100);
        due("no HANDS", idle.makes(0, 2, 1, false), -5);
    }

    private static void yardsFor(int inches, int n, int yards) {
        UtilityBoard b = workshop(inches, 10000, 1000, 100);
        for (int left = yards - 1; left > 0; left -= 9999) {
            b.yards(0, 0, Math.min(left, 9999));
        }
        due(n + " coats of " + inches + ", a YARD too few", b.makes(0, 0, n, false), -4);
        due("a chair needs none", b.makes(0, 1, n, false), n);
        due("an other needs none", b.makes(0, 2, n, false), n);
        b.yards(0, 0, 1);
        due(n + " coats of " + inches, b.makes(0, 0, n, false), n);
        due("no YARD is left", b.look(100, 1), 0);
    }

    private static void mostInAWeek(int plant, int hands, int rate, int most) {
        UtilityBoard b = workshop(1, plant, hands, rate);
        due("one above " + most, b.makes(0, 1, most + 1, false), most == 10000 ? NONE : -5);
        due("all but one", b.makes(0, 1, most - 1, false), most - 1);
        due("two of another THING", b.makes(0, 2, 2, false), -5);
        due("one of another THING", b.makes(0, 2, 1, false), 1);
        due("one more", b.makes(0, 1, 1, false), -5);
        due("what was refused is not counted", b.look(100, 0), most);
        b.goes();
        due("none yet in the new WEEK", b.look(100, 0), 0);
        due("as many in the new WEEK", b.makes(0, 2, most, false), most + 1);
    }

    private static void section1Shops() {
        Doc.sentence("1", "They are in the SHOPS then.");
        UtilityBoard b = workshop(1, 10, 10, 10);
        due("none before", b.count(102), 0);
        b.makes(0, 2, 11, false);
        due("none if it is refused", b.count(102), 0);
        b.makes(0, 2, 10, false);
        due("ten then", b.count(102), 10);
        due("none MARKED", b.count(202), 0);
        b.goes();
        due("they stay", b.count(102), 10);
    }

    private static void section1Persons() {
        Doc.sentence("1", "PERSONS 0 to 39 have POINTS in their BOOK (0 at first, 1000000 at most) and a PURSE "
            + "(0 to 1000000 farthings).");
        UtilityBoard b = new UtilityBoard();
        int[] wrong = {-1, 1000001, LOW, HIGH};
        for (int purse : wrong) {
            due("no PURSE " + purse, b.person(purse), NONE);
        }
        due("an empty PURSE", b.person(0), 0);
        due("a full PURSE", b.person(1000000), 1);
        for (int i = 2; i < 40; i++) {
            due("PERSON " + i, b.person(i), i);
        }
        due("no PERSON 40", b.person(0), NONE);
        Due.order(b, 0, 499, "g99999(w<11);g9(w=11);g1(w=12);g99999(w>12)");
        due("0 POINTS at first", b.look(39, 0), 0);
        goesTo(b, 11);
        due("999999 POINTS", b.look(39, 0), 999999);
        b.goes();
        due("1000000 POINTS", b.look(39, 0), 1000000);
        b.goes();
        due("1000000 at most", b.look(39, 0), 1000000);
        due("of the first, too", b.look(0, 0), 1000000);
    }

    // ---- section 3

    /** A coat 0 of PIECES: each two numbers are a length and a width. */
    private static UtilityBoard coat(int... pieces) {
        UtilityBoard b = new UtilityBoard();
        b.cloth(100, 1, 1);
        b.thing(0, 0, 0, 1);
        for (int i = 0; i < pieces.length; i += 2) {
            due("piece " + i / 2, b.piece(0, pieces[i], pieces[i + 1]), i / 2);
        }
        return b;
    }

    private static void laid(UtilityBoard b, int width, int want, int... order) {
        Due.feed(b, order);
        due("laid " + Arrays.toString(order) + " on " + width, b.laid(0, width, order.length), want);
    }

    private static void section3Patterns() {
        Doc.sentence("3", "PATTERNS of a THING of KIND 0: PIECES 0 to 8, each so long and so wide (1 to 60 inches each).");
        UtilityBoard b = coat(1, 1, 60, 60);
        int[][] wrong = {{0, 1}, {61, 1}, {1, 0}, {1, 61}, {-1, 1}, {1, -1}, {LOW, 1}, {1, HIGH}};
        for (int[] w : wrong) {
            due("no PIECE " + Arrays.toString(w), b.piece(0, w[0], w[1]), NONE);
        }
        for (int i = 2; i < 9; i++) {
            due("piece " + i, b.piece(0, 1, 1), i);
        }
        due("no PIECE 9", b.piece(0, 1, 1), NONE);
        due("all nine are laid", b.least(0, 200, NONE), 60);
        b.drawing(2);
        b.thing(1, 0, 0, 1);
        b.thing(2, NONE, 0, 1);
        due("not of KIND 1", b.piece(1, 1, 1), NONE);
        due("not of KIND 2", b.piece(2, 1, 1), NONE);
    }

    private static void section3Laid() {
        Doc.sentence("3", "LAID on cloth of a WIDTH (1 to 200 inches) in an order: they stand side by side in ROWS across: "
            + "each PIECE goes into the ROW at hand, beside those that are in it, if what is left of WIDTH there is not less "
            + "than it is wide, else a new ROW is begun; a ROW is as long as its longest PIECE; all ROWS together.");
        UtilityBoard b = coat(5, 20, 7, 20, 11, 1);
        laid(b, 41, 11, 0, 1, 2);
        laid(b, 40, 18, 0, 1, 2);
        laid(b, 39, 16, 0, 1, 2);
        laid(b, 20, 23, 0, 1, 2);
        laid(b, 19, -2, 0, 1, 2);
        // A ROW that is left is not gone back to: PIECE 2 would fit beside PIECE 0 alone.
        laid(b, 21, 16, 0, 1, 2);
        laid(b, 21, 18, 2, 0, 1);
        laid(b, 200, 11, 2, 1, 0);
        UtilityBoard thin = coat(60, 1);
        laid(thin, 1, 60, 0);
        UtilityBoard wide = coat(1, 60, 1, 1);
        laid(wide, 60, 2, 0, 1);
        laid(wide, 59, -2, 0, 1);
        Due.feed(thin, 0);
        due("WIDTH 0", thin.laid(0, 0, 1), NONE);
        due("WIDTH 201", thin.laid(0, 201, 1), NONE);
        due("WIDTH 200", thin.laid(0, 200, 1), 60);
        UtilityBoard none = coat();
        due("no PIECES: no ROWS", none.laid(0, 1, 0), 0);
        UtilityBoard most = coat(60, 60, 60, 60, 60, 60, 60, 60, 60, 60, 60, 60, 60, 60, 60, 60, 60, 60);
        laid(most, 60, 540, 8, 7, 6, 5, 4, 3, 2, 1, 0);
        laid(most, 119, 540, 8, 7, 6, 5, 4, 3, 2, 1, 0);
        laid(most, 120, 300, 8, 7, 6, 5, 4, 3, 2, 1, 0);
        laid(most, 200, 180, 8, 7, 6, 5, 4, 3, 2, 1, 0);
    }

    private static void least(UtilityBoard b, int width, int want, int... row) {
        due("least on " + width, b.least(0, width, NONE), want);
        for (int i = 0; i < row.length; i++) {
            due("least on " + width + " at " + i, b.least(0, width, i), row[i]);
        }
    }

    private static void section3TheLeast() {
        Doc.sentence("3", "THE LEAST: of all orders that of least length; of like ones the least row.");
        least(coat(), 1, 0);
        least(coat(9, 9), 9, 9, 0);
        least(coat(9, 9, 9, 9), 9, 18, 0, 1);
        least(coat(5, 10, 9, 10, 5, 10, 9, 10), 20, 14, 0, 2, 1, 3);
        least(coat(5, 10, 9, 10, 5, 10, 9, 10), 19, 28, 0, 1, 2, 3);
        least(coat(5, 10, 9, 10, 5, 10, 9, 10), 40, 9, 0, 1, 2, 3);
        // With PIECE 0 first, only 1 may come next, or its ROW would be one of three.
        least(coat(9, 10, 9, 10, 1, 20), 20, 10, 0, 1, 2);
        least(coat(9, 10, 1, 20, 9, 10), 20, 10, 0, 2, 1);
        // PIECE 0 must be the last: what comes behind it would slip into its ROW.
        least(coat(1, 10, 5, 10, 5, 10), 20, 6, 1, 2, 0);
        UtilityBoard two = coat(9, 10, 9, 10);
        two.thing(0, 0, 0, 1);
        two.piece(1, 1, 20);
        two.piece(1, 7, 20);
        due("of one THING", two.least(0, 20, NONE), 9);
        due("of another of like many PIECES", two.least(1, 20, NONE), 8);
        two.piece(1, 7, 20);
        due("with one PIECE more", two.least(1, 20, NONE), 15);
        due("on another WIDTH", two.least(1, 40, NONE), 8);
        UtilityBoard nine = coat(60, 60, 60, 60, 60, 60, 60, 60, 60, 60, 60, 60, 60, 60, 60, 60, 60, 60);
        least(nine, 60, 540, 0, 1, 2, 3, 4, 5, 6, 7, 8);
        least(nine, 200, 180, 0, 1, 2, 3, 4, 5, 6, 7, 8);
        due("no PIECE at 9", nine.least(0, 60, 9), NONE);
        due("the first is wider", coat(1, 60, 1, 1).least(0, 59, NONE), NONE);
        due("the last is wider", coat(1, 1, 1, 60).least(0, 59, NONE), NONE);
        due("one is wider", nine.least(0, 59, NONE), NONE);
        due("of that no PIECE", nine.least(0, 59, 0), NONE);
    }

    private static void section3Drawing() {
        Doc.sentence("3", "A DRAWING has JOINTS 0 to 7 (2 to 8 of them), STICKS 0 to 7: each between two JOINTS, of a TIMBER: "
            + "0 thin, 1 middling, 2 thick: these bear 10, 25, 60 pounds and use 2, 4, 9 inches.");
        int[] borne = {10, 25, 60};
        int[] used = {2, 4, 9};
        for (int timber = 0; timber < 3; timber++) {
            UtilityBoard b = new UtilityBoard();
            b.drawing(8);
            due("a STICK of " + timber, b.stick(0, 7, 0, timber), 0);
            b.load(0, 7, borne[timber]);
            due(timber + " bears it", b.bears(0), 1);
            due(timber + " uses", b.cheapest(0, NONE), used[timber]);
            due("it is cheapest", b.cheapest(0, 0), timber);
            b.load(0, 7, borne[timber] + 1);
            due(timber + " bears no pound more", b.bears(0), 0);
            due("the next is cheapest", b.cheapest(0, 0), timber == 2 ? NONE : timber + 1);
        }
        UtilityBoard b = new UtilityBoard();
        int[] joints = {1, 9, 0, -1, LOW, HIGH};
        for (int n : joints) {
            due("no DRAWING of " + n, b.drawing(n), NONE);
        }
        for (int n = 2; n <= 8; n++) {
            due("a DRAWING of " + n, b.drawing(n), n - 2);
            due("no JOINT " + n, b.stick(n - 2, 0, n, 0), NONE);
            due("no JOINT -1", b.stick(n - 2, -1, 0, 0), NONE);
            for (int i = 0; i < 8; i++) {
                due("STICK " + i, b.stick(n - 2, i % n, (i + 1) % n, 0), i);
            }
            due("no STICK 8", b.stick(n - 2, 0, 1, 0), NONE);
        }
    }

    private static void section3Floor() {
        Doc.sentence("3", "JOINT 0 is the floor.");
        UtilityBoard b = new UtilityBoard();
        b.drawing(3);
        b.stick(0, 1, 2, 2);
        b.load(0, 1, 1);
        due("not led to the floor", b.bears(0), 0);
        due("nor by any TIMBERS", b.cheapest(0, NONE), NONE);
        b.stick(0, 2, 0, 0);
        due("led to the floor", b.bears(0), 1);
        due("no LOAD on the floor", b.load(0, 0, 1), false);
    }

    private static void section3Loads() {
        Doc.sentence("3", "LOADS (8 at most): so many pounds (1 to 500) at another JOINT.");
        UtilityBoard b = new UtilityBoard();
        b.drawing(2);
        int[][] wrong = {{0, 1}, {2, 1}, {-1, 1}, {1, 0}, {1, 501}, {1, -1}, {LOW, HIGH}, {1, LOW}};
        for (int[] w : wrong) {
            due("no LOAD " + Arrays.toString(w), b.load(0, w[0], w[1]), false);
        }
        due("it bears what is not there", b.bears(0), 1);
        for (int i = 0; i < 8; i++) {
            due("LOAD " + i, b.load(0, 1, i == 0 ? 500 : 1), true);
        }
        due("a ninth LOAD", b.load(0, 1, 1), false);
        for (int i = 0; i < 8; i++) {
            b.stick(0, 0, 1, 2);
        }
        due("500 by eight thick ones, which bear 480", b.bears(0), 0);
        due("nor is there a choice", b.cheapest(0, NONE), NONE);
    }

    private static void section3Bears() {
        Doc.sentence("3", "It BEARS if each LOAD by itself can be led to JOINT 0: the greatest flow from its JOINT through STICKS "
            + "(either way; through none more than it bears) is not less.");
        UtilityBoard b = new UtilityBoard();
        b.drawing(2);
        due("no LOADS, no STICKS", b.bears(0), 1);
        for (int i = 0; i < 8; i++) {
            due("STICK " + i, i % 2 == 0 ? b.stick(0, 0, 1, 2) : b.stick(0, 1, 0, 2), i);
        }
        b.load(0, 1, 480);
        due("480 by eight thick ones, told either way", b.bears(0), 1);
        b.load(0, 1, 480);
        due("each LOAD by itself", b.bears(0), 1);
        b.load(0, 1, 481);
        due("481", b.bears(0), 0);
        // Two ways from 3; what goes 3-1-2-0 first has to be led back.
        b.drawing(4);
        int[][] sticks = {{1, 3}, {2, 3}, {2, 1}, {0, 1}, {0, 2}};
        for (int[] s : sticks) {
            b.stick(1, s[0], s[1], 0);
        }
        b.load(1, 3, 20);
        due("both ways", b.bears(1), 1);
        b.load(1, 3, 21);
        due("a pound more", b.bears(1), 0);
        // Eight JOINTS in a chain: the thinnest tells.
        b.drawing(8);
        for (int i = 0; i < 7; i++) {
            b.stick(2, i, i + 1, i == 3 ? 0 : 2);
        }
        b.load(2, 7, 10);
        b.load(2, 3, 60);
        due("the chain", b.bears(2), 1);
        b.load(2, 4, 11);
        due("behind the thin one", b.bears(2), 0);
    }

    private static void section3TheCheapest() {
        Doc.sentence("3", "THE CHEAPEST: of all choices of TIMBERS for all STICKS by which it BEARS that of fewest inches; "
            + "of like ones the least row.");
        UtilityBoard b = new UtilityBoard();
        b.drawing(2);
        due("no STICKS", b.cheapest(0, NONE), 0);
        for (int i = 0; i < 8; i++) {
            b.stick(0, 0, 1, 2);
        }
        due("no LOADS: all thin", b.cheapest(0, NONE), 16);
        b.load(0, 1, 80);
        due("eight thin ones", b.cheapest(0, NONE), 16);
        b.load(0, 1, 81);
        due("one is middling", b.cheapest(0, NONE), 18);
        for (int i = 0; i < 8; i++) {
            due("the last", b.cheapest(0, i), i == 7 ? 1 : 0);
        }
        b.load(0, 1, 200);
        due("all middling", b.cheapest(0, NONE), 32);
        due("the first then", b.cheapest(0, 0), 1);
        b.load(0, 1, 480);
        due("all thick", b.cheapest(0, NONE), 72);
        due("the first is thick", b.cheapest(0, 0), 2);
        b.load(0, 1, 481);
        due("no choice", b.cheapest(0, NONE), NONE);
        due("no choice for the last STICK", b.cheapest(0, 7), NONE);
        cheapestRow();
        // One JOINT hangs on another; what it did not bear before says nothing of what it may bear then.
        b.drawing(4);
        b.stick(1, 1, 3, 0);
        b.stick(1, 3, 0, 0);
        b.load(1, 1, 10);
        b.load(1, 3, 30);
        due("30 by a thin one", b.bears(1), 0);
        b.load(1, 1, 40);
        due("40 by two thick ones", b.cheapest(1, NONE), 18);
    }

    /** Thin first there are 10 inches, middling first 8: 35 pounds go by one STICK and by two in a chain. */
    private static void cheapestRow() {
        UtilityBoard b = new UtilityBoard();
        b.drawing(3);
        b.stick(0, 1, 0, 0);
        b.stick(0, 1, 2, 0);
        b.stick(0, 2, 0, 0);
        b.load(0, 1, 35);
        due("fewest inches before the least row", b.cheapest(0, NONE), 8);
        for (int i = 0; i < 3; i++) {
            due("STICK " + i, b.cheapest(0, i), i == 0 ? 1 : 0);
        }
    }

    private static void section3Rubbed() {
        Doc.sentence("3", "RUBBED (100 at most): a CLOTH: turns (1 to 100000) until it tore, or after which it was whole; "
            + "told at NOW.");
        UtilityBoard b = new UtilityBoard();
        due("no CLOTH", b.rubbed(0, 1, true), false);
        b.cloth(100, 1, 1);
        b.bench(1);
        int[] wrong = {0, -1, 100001, LOW, HIGH};
        for (int turns : wrong) {
            due("no turns " + turns, b.rubbed(0, turns, true), false);
            due("no turns " + turns + ", whole", b.rubbed(0, turns, false), false);
        }
        due("one turn until it tore", b.rubbed(0, 1, true), true);
        goesTo(b, 3);
        due("100000 turns, whole", b.rubbed(0, 100000, false), true);
        due("told at WEEK 3", b.isTrue(0, 3), 1);
        due("not told by WEEK 2", b.isTrue(0, 2), 2);
        for (int i = 2; i < 100; i++) {
            due("rubbed " + i, b.rubbed(0, 1, true), true);
        }
        due("a 101st", b.rubbed(0, 1, true), false);
        b.cloth(101, 1, 1);
        due("a 101st of another CLOTH", b.rubbed(1, 1, true), false);
    }

    /** TRUE with the LEAST TURNS, FALSE with one less that tore, not known with one less that was whole. */
    private static void leastTurns(int wear, int bench, int least) {
        for (int turns = least - 1; turns <= least; turns++) {
            for (int tore = 0; tore < 2 && turns > 0; tore++) {
                UtilityBoard b = new UtilityBoard();
                b.cloth(100, wear, 1);
                if (bench != 50) {
                    due("bench", b.bench(bench), true);
                }
                b.rubbed(0, 100000, true);
                b.rubbed(0, turns, tore == 1);
                int want = turns >= least ? 1 : tore == 1 ? 0 : 2;
                due(wear + " times " + bench + ", " + turns + " turns", b.isTrue(0, 0), want);
            }
        }
    }

    private static void section3LeastTurns() {
        Doc.sentence("3", "LEAST TURNS of a CLOTH: WEAR times TURNS (a week; 1 to 1000; 50 at first), less a tenth of that, "
            + "rounded down.");
        leastTurns(1, 50, 45);
        leastTurns(100, 50, 4500);
        leastTurns(1, 1, 1);
        leastTurns(9, 1, 9);
        leastTurns(10, 1, 9);
        leastTurns(11, 1, 10);
        leastTurns(1, 19, 18);
        leastTurns(1, 20, 18);
        leastTurns(111, 1000, 99900);
        UtilityBoard b = new UtilityBoard();
        b.cloth(100, 1000, 1);
        int[] wrong = {0, 1001, -1, LOW, HIGH};
        for (int n : wrong) {
            due("no TURNS " + n, b.bench(n), false);
        }
        due("TURNS 1000", b.bench(1000), true);
        b.rubbed(0, 100000, false);
        b.rubbed(0, 100000, false);
        due("900000 are more than can be told", b.isTrue(0, 0), 2);
        b.rubbed(0, 100000, true);
        due("even the most that tore", b.isTrue(0, 0), 0);
    }

    private static void section3Known() {
        Doc.sentence("3", "As KNOWN on t it is FALSE if some RUBBED one (told by t) of it tore with fewer than LEAST TURNS; "
            + "TRUE if not, and there are two or more, and each had LEAST TURNS or more; else it is not known.");
        UtilityBoard b = new UtilityBoard();
        b.cloth(100, 1, 1);
        b.cloth(101, 1, 1);
        due("none", b.isTrue(0, 0), 2);
        b.rubbed(0, 45, true);
        due("one", b.isTrue(0, 0), 2);
        b.rubbed(1, 45, true);
        due("one of another", b.isTrue(0, 0), 2);
        b.rubbed(0, 45, false);
        due("two", b.isTrue(0, 0), 1);
        b.goes();
        b.rubbed(0, 44, false);
        due("one of three had fewer", b.isTrue(0, 1), 2);
        due("as KNOWN before", b.isTrue(0, 0), 1);
        b.goes();
        b.rubbed(0, 44, true);
        due("one tore", b.isTrue(0, 2), 0);
        due("one tore, as KNOWN on 499", b.isTrue(0, 499), 0);
        due("as KNOWN on 1", b.isTrue(0, 1), 2);
        b.rubbed(0, 100000, true);
        due("it stays FALSE", b.isTrue(0, 2), 0);
        b.rubbed(1, 1, false);
        b.rubbed(1, 1, false);
        due("whole, but with fewer", b.isTrue(1, 2), 2);
        b.bench(1);
        due("TURNS as they are now", b.isTrue(1, 2), 1);
    }

    // ---- section 4

    private static void section4Prices() {
        Doc.sentence("4", "PRICES of THINGS in the SHOPS (farthings, 1 to 100000; 1 at first): who BUYS one pays it, "
            + "but no more than THE NUMBER c (by no MAKER), and gives so many POINTS as THE NUMBER p (by no MAKER); "
            + "MARKED or not as told.");
        UtilityBoard b = workshop(1, 100, 100, 100);
        b.person(1000000);
        b.makes(0, 2, 50, false);
        int[] wrong = {0, -1, 100001, LOW, HIGH};
        for (int farthings : wrong) {
            due("no PRICE " + farthings, b.price(2, farthings), false);
        }
        due("1 at first", b.buys(0, 2, false), 1);
        due("the most", b.price(2, 100000), true);
        due("100000 are paid", b.buys(0, 2, false), 100000);
        int[][] caps = {{99999, 99999}, {100, 100}, {1, 1}, {0, 0}};
        for (int[] cap : caps) {
            Due.order(b, 0, 499, "c" + cap[0] + "(t+j+h=0)");
            due("no more than " + cap[0], b.buys(0, 2, false), cap[1]);
        }
        b.price(2, 60);
        Due.order(b, 0, 499, "c61(w=w)");
        due("below c", b.buys(0, 2, false), 60);
        Due.order(b, 0, 499, "c59(w=w)");
        due("above c", b.buys(0, 2, false), 59);
        Due.order(b, 0, 499, "c1(h=100);p9(h=100)");
        due("c and p by no MAKER", b.buys(0, 2, false), 59);
        Due.order(b, 0, 499, "p1(w=w);g3(w=w);m(w=w)");
        due("no POINTS", b.buys(0, 2, false), -3);
        b.goes();
        for (int left = 2; left >= 0; left--) {
            due("one POINT", b.buys(0, 2, false), 59);
            due("POINTS left", b.look(0, 0), left);
        }
        due("none is left", b.buys(0, 2, false), -3);
        due("none is MARKED, before POINTS", b.buys(0, 2, true), -2);
        b.makes(0, 2, 1, true);
        b.goes();
        due("a MARKED one", b.buys(0, 2, true), 59);
        due("it was the only one", b.buys(0, 2, true), -2);
    }

    private static void section4Points() {
        Doc.sentence("4", "When a WEEK goes by each BOOK gets THE NUMBER g of the new WEEK.");
        UtilityBoard b = new UtilityBoard();
        due("no BOOKS", b.goes(), 1);
        b.person(0);
        b.goes();
        due("no g", b.look(0, 0), 0);
        Due.order(b, 3, 4, "g5(w=3);g7(w=4)");
        due("not at once", b.look(0, 0), 0);
        b.goes();
        due("g of WEEK 3", b.look(0, 0), 5);
        b.person(0);
        b.goes();
        due("g of WEEK 4", b.look(0, 0), 12);
        due("a BOOK that came later", b.look(1, 0), 7);
        b.goes();
        due("behind WEEK 4", b.look(0, 0), 12);
        Due.order(b, 5, 499, "g0(w=w)");
        Due.order(b, 0, 5, "g9(w=w)");
        b.goes();
        due("g of 0", b.look(0, 0), 12);
    }

    private static void section4Gone() {
        Doc.sentence("4", "GONE: the WEEK in which the last of a THING is bought, if from NOW on each WEEK so many "
            + "(1 to 100000) of it are.");
        UtilityBoard b = workshop(1, 10000, 1000, 100);
        int[] wrong = {0, -1, 100001, LOW, HIGH};
        due("none", b.gone(2, 1), NONE);
        b.makes(0, 2, 600, false);
        for (int n : wrong) {
            due("no such number " + n, b.gone(2, n), NONE);
        }
        due("600 a WEEK", b.gone(2, 600), 0);
        due("599 a WEEK", b.gone(2, 599), 1);
        due("300 a WEEK", b.gone(2, 300), 1);
        due("299 a WEEK", b.gone(2, 299), 2);
        due("2 a WEEK", b.gone(2, 2), 299);
        due("100000 a WEEK", b.gone(2, 100000), 0);
        goesTo(b, 10);
        due("from NOW on", b.gone(2, 600), 10);
        due("from NOW on, 2 a WEEK", b.gone(2, 2), 309);
        Due.order(b, 0, 499, "m(w=w)");
        b.makes(0, 2, 1, true);
        due("MARKED ones too", b.gone(2, 600), 11);
    }

    private static UtilityBoard shop() {
        UtilityBoard b = workshop(1, 1000, 100, 100);
        b.person(100);
        b.person(100);
        b.person(100);
        b.makes(0, 2, 50, false);
        b.makes(0, 1, 50, false);
        goesTo(b, 4);
        return b;
    }

    private static void section4Dockets() {
        Doc.sentence("4", "DOCKETS 0 to 59: a PERSON waits for a THING since a WEEK (not behind NOW), of WEIGHT (0 to 99); "
            + "it is open until that PERSON BUYS that THING.");
        UtilityBoard b = shop();
        int[][] wrong = {{3, 2, 0, 0}, {-1, 2, 0, 0}, {0, 3, 0, 0}, {0, -1, 0, 0}, {0, 2, -1, 0}, {0, 2, 5, 0},
            {0, 2, 0, -1}, {0, 2, 0, 100}, {LOW, LOW, LOW, LOW}, {HIGH, HIGH, HIGH, HIGH}};
        for (int[] w : wrong) {
            due("no DOCKET " + Arrays.toString(w), b.docket(w[0], w[1], w[2], w[3]), NONE);
        }
        due("since NOW, WEIGHT 99", b.docket(0, 2, 4, 99), 0);
        due("since WEEK 0, WEIGHT 0", b.docket(0, 2, 0, 0), 1);
        due("of another THING", b.docket(0, 1, 0, 0), 2);
        due("of another PERSON", b.docket(1, 2, 0, 0), 3);
        b.buys(0, 2, true);
        due("what was refused closes none", b.waits(0, 1), 0);
        b.buys(0, 2, false);
        due("0 is closed", b.waits(0, 1), NONE);
        due("1 is closed", b.waits(1, 1), NONE);
        due("of another THING it is open", b.waits(2, 1), 0);
        due("of another PERSON it is open", b.waits(3, 1), 0);
        for (int i = 4; i < 60; i++) {
            due("DOCKET " + i, b.docket(2, 2, 1, 50), i);
        }
        due("no DOCKET 60", b.docket(2, 2, 1, 50), NONE);
        due("the last", b.waits(59, 1), 55);
    }

    private static void section4TheirOrder() {
        Doc.sentence("4", "Their ORDER for a THING: by WEIGHT from the most on, then by WEEKS from the earliest on, "
            + "then by numbers.");
        UtilityBoard b = shop();
        due("empty", b.first(2, 0), NONE);
        int[][] dockets = {{0, 2, 4, 0}, {1, 2, 0, 0}, {2, 2, 4, 99}, {0, 2, 0, 0}, {1, 2, 3, 99}, {2, 2, 4, 1},
            {0, 1, 0, 50}};
        for (int[] d : dockets) {
            b.docket(d[0], d[1], d[2], d[3]);
        }
        int[] line = {4, 2, 5, 1, 3, 0};
        for (int i = 0; i < line.length; i++) {
            due("the one at " + i, b.first(2, i), line[i]);
            due("it waits", b.waits(line[i], 1), i);
        }
        due("none at 6", b.first(2, 6), NONE);
        due("none at -1", b.first(2, -1), NONE);
        due("of another THING", b.first(1, 0), 6);
        due("of another THING only one", b.first(1, 1), NONE);
    }

    private static void section4Bombed() {
        Doc.sentence("4", "BOMBED is a PERSON: all open DOCKETS of theirs have WEIGHT 99.");
        UtilityBoard b = shop();
        due("no DOCKETS", b.bombed(0), 0);
        b.docket(0, 2, 4, 0);
        b.docket(0, 1, 4, 98);
        b.docket(0, 2, 4, 99);
        b.docket(1, 2, 0, 98);
        due("before", b.first(2, 1), 3);
        due("two have another WEIGHT", b.bombed(0), 2);
        due("the first has 99", b.first(2, 0), 0);
        due("the second had it", b.first(2, 1), 2);
        due("another PERSON's has 98", b.first(2, 2), 3);
        due("none has another WEIGHT", b.bombed(0), 0);
        b.docket(1, 1, 0, 5);
        b.buys(1, 2, false);
        due("a closed one has its WEIGHT still", b.bombed(1), 1);
        due("of 99 since WEEK 0", b.first(1, 0), 4);
    }

    private static void section4Seen() {
        Doc.sentence("4", "SEEN (100 at most): so many (1 to 100000) of a THING with the MARK in a WEEK (not behind NOW).");
        UtilityBoard b = shop();
        int[][] wrong = {{3, 0, 1}, {-1, 0, 1}, {0, -1, 1}, {0, 5, 1}, {0, 0, 0}, {0, 0, 100001}, {0, 0, -1},
            {LOW, LOW, LOW}, {HIGH, HIGH, HIGH}};
        for (int[] w : wrong) {
            due("not SEEN " + Arrays.toString(w), b.seen(w[0], w[1], w[2]), false);
        }
        due("none was SEEN", b.falsely(0), 0);
        due("one in WEEK 0", b.seen(0, 0, 1), true);
        due("100000 in WEEK 4", b.seen(0, 4, 100000), true);
        due("all are false", b.falsely(0), 100000);
        for (int i = 2; i < 100; i++) {
            due("SEEN " + i, b.seen(1, 4, 5), true);
        }
        due("a 101st", b.seen(2, 0, 1), false);
        due("it was not SEEN", b.falsely(2), 0);
    }

    private static void section4FalselyMarked() {
        Doc.sentence("4", "FALSELY MARKED of a THING are at least as many as by some SEEN one are more than all MARKED ones of it "
            + "made up to that WEEK by MAKERS who are NAMED now, less those bought MARKED up to it.");
        UtilityBoard b = shop();
        Due.order(b, 0, 499, "m(w=w)");
        b.maker(0, 1000, 100, 100, 0);
        b.named(0, true);
        b.makes(0, 2, 5, true);
        b.makes(1, 2, 7, true);
        goesTo(b, 6);
        b.makes(0, 2, 2, true);
        b.buys(0, 2, true);
        b.buys(0, 2, false);
        b.buys(0, 1, false);
        b.seen(2, 3, 1);
        due("before any was made", b.falsely(2), 1);
        b.seen(2, 4, 5);
        b.seen(2, 5, 5);
        due("up to that WEEK: just as many", b.falsely(2), 1);
        b.seen(2, 5, 7);
        due("up to that WEEK: two more", b.falsely(2), 2);
        b.seen(2, 6, 8);
        due("up to NOW, less the one bought", b.falsely(2), 2);
        b.seen(2, 6, 9);
        due("one more", b.falsely(2), 3);
        b.named(1, true);
        due("both are NAMED now", b.falsely(2), 1);
        b.named(0, false);
        due("only the other is: WEEK 6 has 7 less 1", b.falsely(2), 3);
        b.named(1, false);
        due("nobody is: one was bought that nobody made", b.falsely(2), 10);
        due("of another THING", b.falsely(1), 0);
    }

    // ---- section 5

    private static void section5PutTogether() {
        Doc.sentence("5", "PUT TOGETHER: of told MAKERS (some of them, as bits; eight at most) a set works on, "
            + "the others stand still.");
        UtilityBoard b = new UtilityBoard();
        due("no MAKERS", b.needs(0, 0, 1), NONE);
        due("no MAKERS to choose from", b.fewest(0, 1, NONE), NONE);
        for (int i = 0; i < 12; i++) {
            b.maker(0, 100, 10, 10, 0);
        }
        int[] eight = {0xff, 0xff0, 0xa3f};
        for (int told : eight) {
            due(Integer.toBinaryString(told) + " told", b.needs(told, Integer.highestOneBit(told), 100), 10);
        }
        int[] wrong = {0x1ff, 0xfff, 0xff8, 0x1000, 0x1001, -1, LOW, LOW + 1, HIGH};
        for (int told : wrong) {
            due("not told " + told, b.needs(told, told & 1, 1), NONE);
            due("not told to choose from " + told, b.fewest(told, 1, NONE), NONE);
        }
        due("others stand still", b.needs(0xff, 1, 101), -2);
        due("two work on", b.needs(0xff, 0x81, 101), 11);
        due("all eight work on", b.needs(0xff, 0xff, 800), 80);
        due("one that is not told", b.needs(0xff, 0x100, 1), NONE);
        due("none", b.needs(0xff, 0, 1), NONE);
    }

    private static void section5MayDo() {
        Doc.sentence("5", "It MAY DO told pieces (1 to 100000) if PLANT of the set together is not less, and HANDS that it NEEDS "
            + "are not more than HANDS of all told ones: MAKER by MAKER of the set, from the greatest RATE on "
            + "(of like ones the lowest first), each makes as many as PLANT lets of those that are still to be made, "
            + "by so many HANDS as these through RATE, rounded up.");
        UtilityBoard b = new UtilityBoard();
        b.maker(0, 10, 3, 3, 0);
        b.maker(0, 10, 4, 7, 0);
        b.maker(0, 10, 0, 3, 0);
        int[] wrong = {0, -1, 100001, LOW, HIGH};
        for (int pieces : wrong) {
            due("no such pieces " + pieces, b.needs(3, 3, pieces), NONE);
            due("no such pieces to choose for " + pieces, b.fewest(3, pieces, NONE), NONE);
        }
        due("one", b.needs(3, 3, 1), 1);
        due("7 through 7", b.needs(3, 3, 7), 1);
        due("8 through 7", b.needs(3, 3, 8), 2);
        due("10 and one", b.needs(3, 3, 11), 3);
        due("10 and 3", b.needs(3, 3, 13), 3);
        due("10 and 4", b.needs(3, 3, 14), 4);
        due("just PLANT", b.needs(3, 3, 20), 6);
        due("above PLANT", b.needs(3, 3, 21), -2);
        due("100000", b.needs(3, 3, 100000), -2);
        due("just HANDS of all told", b.needs(5, 4, 9), 3);
        due("above HANDS of all told", b.needs(5, 4, 10), -2);
        due("without HANDS", b.needs(4, 4, 1), -2);
        // Of like RATES it is PLANT that tells who came first.
        b.maker(0, 1, 9, 3, 0);
        b.maker(0, 2, 9, 3, 0);
        due("1 and 2 pieces: 1 and 1 HANDS", b.needs(24, 24, 3), 2);
        due("the lowest first: 1, then 1", b.needs(24, 24, 2), 2);
        b.maker(0, 2, 9, 2, 0);
        b.maker(0, 1, 9, 2, 0);
        due("the lowest first: 2, then none", b.needs(96, 96, 2), 1);
        eightRates();
        most();
    }

    /** Told from the least RATE on and from the greatest on, they work from the greatest on. */
    private static void eightRates() {
        for (int up = 0; up < 2; up++) {
            UtilityBoard b = new UtilityBoard();
            for (int i = 0; i < 8; i++) {
                b.maker(0, 60, 1000, up == 1 ? 1 + i : 8 - i, 0);
            }
            int hands = 0;
            for (int rate = 8; rate > 0; rate--) {
                hands += (60 + rate - 1) / rate;
                due("the " + (9 - rate) + " greatest RATES", b.needs(255, 255, 60 * (9 - rate)), hands);
                due("and one piece more", b.needs(255, 255, 60 * (9 - rate) + 1), rate == 1 ? -2 : hands + 1);
            }
        }
    }

    private static void most() {
        UtilityBoard b = new UtilityBoard();
        for (int i = 0; i < 8; i++) {
            b.maker(0, 10000, 1000, 10, 0);
        }
        due("80000 pieces by 8000 HANDS", b.needs(255, 255, 80000), 8000);
        due("80001 pieces", b.needs(255, 255, 80001), -2);
        due("100000 pieces", b.needs(255, 255, 100000), -2);
    }

    private static void section5Fewest() {
        Doc.sentence("5", "FEWEST: of sets that MAY DO them and have a MAKER of a told TOWN (if one is told) that of fewest HANDS; "
            + "of like ones of fewest MAKERS; of like ones the least, as bits.");
        UtilityBoard b = new UtilityBoard();
        b.maker(0, 10, 9, 10, 0);
        b.maker(1, 20, 9, 10, 0);
        b.maker(2, 10, 9, 10, 0);
        b.maker(3, 100, 9, 1, 0);
        due("one of HANDS: the least", b.fewest(15, 10, NONE), 1);
        due("of TOWN 1", b.fewest(15, 10, 1), 2);
        due("of TOWN 2", b.fewest(15, 10, 2), 4);
        due("of TOWN 3: one that stands by", b.fewest(15, 10, 3), 9);
        due("of TOWN 3 alone", b.fewest(8, 9, 3), 8);
        due("of TOWN 3 alone, too many", b.fewest(8, 10, 3), NONE);
        due("of TOWN 4", b.fewest(15, 10, 4), NONE);
        due("two of HANDS: fewest MAKERS", b.fewest(15, 20, NONE), 2);
        due("two of HANDS with TOWN 2: fewest, then least", b.fewest(15, 20, 2), 5);
        due("three of HANDS: the least", b.fewest(15, 30, NONE), 3);
        due("40", b.fewest(15, 40, NONE), 7);
        due("41", b.fewest(15, 41, NONE), 15);
        due("all HANDS", b.fewest(15, 72, NONE), 15);
        due("one HAND too few", b.fewest(15, 73, NONE), NONE);
        due("none told", b.fewest(0, 1, NONE), NONE);
    }

    private static void section5Loses() {
        Doc.sentence("5", "LOSES: what a MAKER loses on one of a THING: the cost of its cloth (coats: INCHES times COST through 36, "
            + "rounded up; chairs: INCHES; others 0) and HIRE through RATE, rounded up, less what comes in: "
            + "the price that is paid now (section 4) less THE NUMBER d (by no MAKER) hundredths of it, rounded down.");
        int[][] coats = {{1, 1, 1}, {36, 1, 1}, {37, 1, 2}, {1, 37, 2}, {10000, 10000, 2777778}, {6, 6, 1}};
        for (int[] c : coats) {
            UtilityBoard b = new UtilityBoard();
            b.cloth(100, 1, c[1]);
            b.thing(0, 0, 0, c[0]);
            b.maker(0, 1, 0, 1, 0);
            due("a coat of " + c[0] + " INCHES at " + c[1], b.loses(0, 0), c[2] - 1);
        }
        int[][] hires = {{0, 1, 0}, {0, 100, 0}, {1, 100, 1}, {100, 100, 1}, {101, 100, 2}, {10000, 1, 10000}};
        for (int[] h : hires) {
            UtilityBoard b = new UtilityBoard();
            b.drawing(2);
            b.thing(1, 0, 0, 10000);
            b.thing(2, NONE, 0, 10000);
            b.maker(0, 1, 0, h[1], h[0]);
            due("a chair, HIRE " + h[0] + " through " + h[1], b.loses(0, 0), 10000 + h[2] - 1);
            due("an other, HIRE " + h[0] + " through " + h[1], b.loses(0, 1), h[2] - 1);
        }
        margins();
    }

    private static void margins() {
        UtilityBoard b = new UtilityBoard();
        b.thing(2, NONE, 0, 1);
        b.maker(3, 1, 7, 1, 0);
        int[][] margins = {{0, 99, 99}, {1, 99, 99}, {1, 100, 99}, {1, 199, 198}, {1, 200, 198}, {99, 99, 1}, {99, 1, 1},
            {100, 1, 0}, {100, 100000, 0}, {50, 3, 2}, {99, 100000, 1000}};
        for (int[] m : margins) {
            Due.order(b, 0, 499, "d" + m[0] + "(w=w)");
            b.price(0, m[1]);
            due(m[0] + " hundredths of " + m[1], b.loses(0, 0), -m[2]);
        }
        Due.order(b, 0, 499, "d50(t=0);d10(t=3);c1000(h=0);c10(h=7)");
        due("c and d by no MAKER", b.loses(0, 0), -500);
        Due.order(b, 1, 499, "d0(w=w)");
        due("not yet", b.loses(0, 0), -500);
        b.goes();
        due("as it is now", b.loses(0, 0), -1000);
        Due.order(b, 0, 499, "c0(w=w)");
        due("nothing comes in", b.loses(0, 0), 0);
    }

    private static void section5Gains() {
        Doc.sentence("5", "(Below 0: it gains.)");
        UtilityBoard b = new UtilityBoard();
        b.drawing(2);
        b.thing(1, 0, 0, 5);
        b.maker(0, 1, 0, 1, 0);
        b.price(0, 4);
        due("it loses one", b.loses(0, 0), 1);
        b.price(0, 5);
        due("it loses nothing", b.loses(0, 0), 0);
        b.price(0, 6);
        due("it gains one", b.loses(0, 0), -1);
        b.price(0, 100000);
        due("it gains the most", b.loses(0, 0), -99995);
        due("no MAKER: no gain", b.loses(1, 0), -1000000000);
    }

    private static void section5Beside() {
        Doc.sentence("5", "BESIDE: how many THINGS may be made by some MAKER now (no b against both), all ORDERS being so "
            + "or without one of them.");
        UtilityBoard b = new UtilityBoard();
        due("no THINGS, no MAKERS", b.beside(NONE), 0);
        b.thing(2, NONE, 0, 1);
        b.thing(2, NONE, 1, 1);
        due("no MAKERS", b.beside(NONE), 0);
        b.maker(0, 1, 0, 1, 0);
        due("a MAKER without HANDS may", b.beside(NONE), 2);
        Due.order(b, 0, 0, "b(t=0&q=0)");
        due("b against one", b.beside(NONE), 1);
        b.maker(1, 1, 0, 1, 0);
        due("by another MAKER", b.beside(NONE), 2);
        Due.order(b, 0, 0, "b(t=1)");
        due("by none of both", b.beside(NONE), 1);
        due("without ORDER 0", b.beside(0), 2);
        due("without ORDER 1", b.beside(1), 2);
        Due.order(b, 0, 0, "x0.0");
        due("struck", b.beside(NONE), 2);
        due("without the one that strikes", b.beside(2), 1);
        due("without the one that is struck", b.beside(0), 2);
        int[] wrong = {3, 29, 30, -2, LOW, HIGH};
        for (int i : wrong) {
            due("no ORDER " + i, b.beside(i), NONE);
        }
        Due.order(b, 0, 0, "b(w=0)");
        due("all are barred", b.beside(NONE), 0);
        due("without ORDER 3", b.beside(3), 2);
        b.goes();
        due("none is in FORCE", b.beside(NONE), 2);
        due("without one that is not in FORCE", b.beside(3), 2);
        full();
    }

    private static void full() {
        UtilityBoard b = new UtilityBoard();
        for (int x = 0; x < 30; x++) {
            b.thing(2, NONE, x % 10, 1 + x);
        }
        for (int m = 0; m < 12; m++) {
            b.maker(m % 8, 1, m, 1, 0);
        }
        for (int i = 0; i < 30; i++) {
            Due.order(b, 0, 499, "b(i=" + (i + 1) + ")");
        }
        due("each ORDER bars one", b.beside(NONE), 0);
        due("without the first", b.beside(0), 1);
        due("without the last", b.beside(29), 1);
    }

    private static void check(UtilityBoard b, int n, int want, int... numbers) {
        for (int i = 0; i < numbers.length; i += 5) {
            int[] five = Arrays.copyOfRange(numbers, i, i + 5);
            b.feed(five[0], five[1], five[2], five[3], five[4]);
        }
        due("check of " + Arrays.toString(numbers), b.check(n), want);
        due("the tape then", b.count(10), 0);
    }

    private static void section5Check() {
        Doc.sentence("5", "CHECK: threes of numbers: a THING, 1 (MARKED) or 0, how many of them are in the SHOPS (not 0), "
            + "by THINGS, unmarked ones first: right, or the first number that is not so.");
        UtilityBoard b = workshop(1, 10000, 1000, 100);
        b.person(1000);
        check(b, 0, NONE);
        check(b, 1, 0, 0, 0, 0);
        Due.order(b, 0, 499, "m(w=w)");
        b.makes(0, 2, 10, true);
        check(b, 1, NONE, 2, 1, 10);
        check(b, 2, 1, 2, 0, 0, 2, 1, 10);
        check(b, 2, 0, 0, 0, 0, 2, 1, 10);
        check(b, 0, 0);
        b.makes(0, 2, 1, false);
        check(b, 2, NONE, 2, 0, 1, 2, 1, 10);
        check(b, 2, 1, 2, 1, 10, 2, 0, 1);
        b.makes(0, 1, 256, false);
        check(b, 3, NONE, 1, 0, 256, 2, 0, 1, 2, 1, 10);
        check(b, 3, 2, 1, 0, 255, 2, 0, 1, 2, 1, 10);
        check(b, 3, 2, 1, 0, 257, 2, 0, 1, 2, 1, 10);
        check(b, 3, 2, 1, 0, -256, 2, 0, 1, 2, 1, 10);
        check(b, 3, 0, 2, 0, 1, 2, 1, 10, 1, 0, 256);
        check(b, 2, 6, 1, 0, 256, 2, 0, 1);
        check(b, 4, 9, 1, 0, 256, 2, 0, 1, 2, 1, 10, 2, 1, 10);
        b.buys(0, 2, false);
        check(b, 2, NONE, 1, 0, 256, 2, 1, 10);
        check(b, 3, 4, 1, 0, 256, 2, 0, 0, 2, 1, 10);
    }

    // ---- what is said behind the sections

    private static void section6Memory() {
        Doc.sentence("6", "All memory is the board's own.");
        UtilityBoard used = Land.make();
        String before = Land.state(Land.make());
        UtilityBoard fresh = new UtilityBoard();
        for (int what = 0; what <= 10; what++) {
            due("a new board beside another: count(" + what + ")", fresh.count(what), 0);
        }
        fresh.bench(1000);
        fresh.cloth(209, 1, 1);
        fresh.feed(-1, -1, -1, -1, -1);
        fresh.order(0, 0, 1);
        goesTo(fresh, 9);
        Land.answer("the other board is as it was", Land.state(used), before);
        due("its tape too", used.order(0, 499, 20), 2);
    }

    private static void section6Refused() {
        Doc.sentence("6", "A call that is refused (NONE, false, below 0 where told) changes nothing but the tape, where it is told.");
        int[] far = {LOW, -2, HIGH};
        for (int v : far) {
            Land.refused(NONE, "cloth", b -> b.cloth(v, v, v));
            Land.refused(NONE, "drawing", b -> b.drawing(v));
            Land.refused(NONE, "stick", b -> b.stick(0, v, 1, 0));
            Land.refused(false, "load", b -> b.load(0, v, 1));
            Land.refused(NONE, "thing", b -> b.thing(0, v, 0, 1));
            Land.refused(NONE, "piece", b -> b.piece(0, v, 1));
            Land.refused(NONE, "maker", b -> b.maker(v, 1, 1, 1, 1));
            Land.refused(false, "named", b -> b.named(v, true));
            Land.refused(NONE, "yards", b -> b.yards(0, 0, v));
            Land.refused(NONE, "makes", b -> b.makes(0, 1, v, false));
            Land.refused(NONE, "person", b -> b.person(v));
            Land.refused(false, "price", b -> b.price(0, v));
            Land.refused(NONE, "buys", b -> b.buys(v, 1, false));
            Land.refused(NONE, "docket", b -> b.docket(0, 0, v, 0));
            Land.refused(NONE, "bombed", b -> b.bombed(v));
            Land.refused(false, "seen", b -> b.seen(0, 0, v));
            Land.refused(false, "rubbed", b -> b.rubbed(0, v, true));
            Land.refused(false, "bench", b -> b.bench(v));
            Land.refused(NONE, "laid: the tape stays", b -> b.laid(0, 40, v));
            Land.refused(NONE, "order: the tape stays", b -> b.order(0, 499, v));
            Land.refused(-2, "check: the tape stays", b -> b.check(v));
        }
        Land.refused(-2, "makes what is barred", b -> b.makes(1, 2, 1, false));
        Land.refused(-3, "makes without an m", b -> b.makes(1, 1, 1, true));
        Land.refused(-4, "makes without YARDS", b -> b.makes(1, 0, 1, false));
        Land.refused(-5, "makes above PLANT", b -> b.makes(0, 2, 46, false));
        Land.refused(-2, "buys what is not there", b -> b.buys(0, 1, true));
        Land.refusedAfter(b -> b.price(1, 100000), -4, "buys above the PURSE", b -> b.buys(0, 1, false));
        Land.refused(-2, "needs too many", b -> b.needs(3, 3, 100000));
        Land.emptied(-2, "laid: the tape is empty", b -> b.laid(0, 40, 3));
        Land.emptied(-1001, "order: the tape is empty", b -> b.order(0, 499, 1));
        Land.emptied(0, "check: the tape is empty", b -> b.check(1));
        fullTape();
    }

    private static void fullTape() {
        UtilityBoard b = Land.make();
        for (int i = 2; i <= 20; i++) {
            b.feed(0, 0, 0, 0, 0);
        }
        due("feed: refused", b.feed(-1, -1, -1, -1, -1), NONE);
        due("the tape stays", b.count(10), 400);
        due("its first bytes too", b.order(0, 499, 20), 2);
    }

    private static void section6Constants() {
        Doc.sentence("6", "The constants: `NONE = -1`: There is none.");
        due("NONE", UtilityBoard.NONE, -1);
        due("what there is none of", new UtilityBoard().count(20), UtilityBoard.NONE);
    }
}
