/** TEXTS of ORDERS (section 2 of the terms), sentence by sentence: the bounds that each of them names. */
public final class TextBoundaryTest {
    private static final int NONE = UtilityBoard.NONE;
    private static final String DIGITS = "0123456789";
    private static final String LETTERS = "wknqiatjh";
    private static final String CLAUSES = "bmpcgdx";
    private static final String TWELVE = "x0.0" + ";x0.0".repeat(11);

    public static void main(String[] args) {
        orders();
        bars();
        marks();
        points();
        mostPrice();
        bookPoints();
        margin();
        strikes();
        conditions();
        sums();
        letters();
        reckoned32Bits();
        asMuchAsMatters();
        fault1();
        fault2();
        fault3();
        fault4();
        fault5();
        knownOn();
        theNumber();
        knownNow();
        why();
        Doc.nothingIsLeftOf("2");
        Due.finish();
    }

    private static void due(String call, long got, long want) {
        Due.due(call, got, want);
    }

    /** A coat 0 (CLOTH 310, WEAR 7), a chair 1 (DRAWING 1), an other 2; MAKERS 0 and 1 (NAMED); a PERSON. */
    private static UtilityBoard land() {
        UtilityBoard b = new UtilityBoard();
        b.cloth(209, 100, 72);
        b.cloth(310, 7, 5);
        b.drawing(2);
        b.drawing(3);
        b.thing(0, 1, 3, 108);
        b.thing(1, 1, 2, 40);
        b.thing(2, NONE, 9, 10000);
        b.maker(5, 50, 10, 4, 40);
        b.maker(7, 50, 30, 4, 40);
        b.named(1, true);
        b.person(1000000);
        return b;
    }

    private static int read(String text) {
        return Due.order(new UtilityBoard(), 0, 499, text);
    }

    private static void stands(String text) {
        due(text, read(text), 0);
    }

    private static void fault(String text, int kind, int place) {
        UtilityBoard b = new UtilityBoard();
        due(text, Due.order(b, 0, 499, text), -1000 * kind - place);
        due("no ORDER of " + text, b.count(5), 0);
        due("the tape after " + text, b.count(10), 0);
    }

    private static void goesTo(UtilityBoard b, int week) {
        for (int w = b.count(0); w < week; w++) {
            b.goes();
        }
    }

    /** Whether a C holds of the coat, by no MAKER, in WEEK 6. */
    private static void says(String condition, boolean want) {
        UtilityBoard b = land();
        due("the text " + condition, Due.order(b, 0, 499, "b(" + condition + ")"), 0);
        due(condition, b.number(5, 0, NONE, 6, 0), want ? 1 : 0);
    }

    private static void orders() {
        Doc.sentence("2", "ORDERS 0 to 29, in FORCE from a WEEK to a WEEK (both too), told at NOW: a TEXT of at most 160 bytes, "
            + "no blanks: CLAUSES (12 at most) with a ; (59) between two:");
        UtilityBoard b = land();
        goesTo(b, 5);
        due("ORDER 0", Due.order(b, 7, 9, "p1(w=w)"), 0);
        int[] points = {0, 1, 1, 1, 0};
        for (int week = 6; week <= 10; week++) {
            due("in FORCE on " + week, b.number(0, 0, NONE, week, 5), points[week - 6]);
        }
        due("not told by WEEK 4", b.number(0, 0, NONE, 8, 4), 0);
        due("told by WEEK 5", b.number(0, 0, NONE, 8, 5), 1);
        due("in FORCE for one WEEK", Due.order(b, 0, 0, "p2(w=w)"), 1);
        due("on that WEEK", b.number(0, 0, NONE, 0, 5), 2);
        due("not on the next", b.number(0, 0, NONE, 1, 5), 0);
        due("in FORCE on the last WEEK", Due.order(b, 499, 499, "p3(w=w)"), 2);
        due("on the last WEEK", b.number(0, 0, NONE, 499, 5), 3);
        due("not on that before", b.number(0, 0, NONE, 498, 5), 0);
        for (int i = 3; i < 30; i++) {
            due("ORDER " + i, Due.order(b, 0, 499, "x0.0"), i);
        }
        due("no ORDER 30", Due.order(b, 0, 499, "x0.0"), NONE);
        sizesAndBlanks();
    }

    private static void sizesAndBlanks() {
        String most = "b(" + "w+".repeat(77) + "w=";
        due("its length", most.length(), 158);
        UtilityBoard b = land();
        due("160 bytes", Due.order(b, 0, 499, most + "1)"), 0);
        due("161 bytes", Due.order(b, 0, 499, most + "1);"), NONE);
        int[] blanks = {' ', '\t', '\n', '\r', 0};
        for (int blank : blanks) {
            fault((char) blank + "b(w=1)", 1, 0);
            fault("b" + (char) blank + "(w=1)", 1, 1);
            fault("b(" + (char) blank + "w=1)", 1, 2);
            fault("b(w" + (char) blank + "=1)", 1, 3);
            fault("b(w=1" + (char) blank + ")", 1, 5);
            fault("b(w=1)" + (char) blank, 1, 6);
            fault("b(w=1);" + (char) blank, 1, 7);
        }
        stands("b(w=1)");
        stands("b(w=1);m(w=1)");
        fault("b(w=1)m(w=1)", 1, 6);
        fault("b(w=1):m(w=1)", 1, 6);
        fault("b(w=1);;m(w=1)", 1, 7);
        fault(";b(w=1)", 1, 0);
        fault("b(w=1);", 1, 7);
        stands(TWELVE);
        fault(TWELVE + ";x0.0", 4, 60);
        fault(TWELVE + ";", 1, 60);
    }

    private static void bars() {
        Doc.sentence("2", "b(C) it may not be made (MARKED or not);");
        UtilityBoard b = land();
        Due.order(b, 0, 499, "m(w=w);b(q=2)");
        due("a chair", b.makes(0, 1, 1, false), -2);
        due("a MARKED chair", b.makes(0, 1, 1, true), -2);
        due("an other", b.makes(0, 2, 1, false), 1);
        due("a MARKED other", b.makes(0, 2, 1, true), 2);
        fault("b1(q=2)", 1, 1);
    }

    private static void marks() {
        Doc.sentence("2", "m(C) it may bear the MARK;");
        UtilityBoard b = land();
        due("without ORDERS none may", b.makes(0, 1, 1, true), -3);
        Due.order(b, 0, 499, "m(q=2)");
        due("a chair", b.makes(0, 1, 1, true), 1);
        due("an other", b.makes(0, 2, 1, true), -3);
        due("an other without", b.makes(0, 2, 1, false), 1);
        fault("m1(q=2)", 1, 1);
    }

    private static void points() {
        Doc.sentence("2", "pN(C) it needs N POINTS;");
        UtilityBoard b = land();
        b.makes(0, 1, 5, false);
        Due.order(b, 0, 499, "p0(w=w)");
        due("none", b.buys(0, 1, false), 1);
        Due.order(b, 0, 499, "p99999(w=w);g99999(w=1)");
        due("the most", b.number(0, 1, NONE, 0, 0), 99999);
        due("too few", b.buys(0, 1, false), -3);
        b.goes();
        due("just so many", b.buys(0, 1, false), 1);
        due("all were given", b.look(0, 0), 0);
        fault("p(w=w)", 1, 1);
        fault("p100000(w=w)", 2, 6);
        fault("p-1(w=w)", 1, 1);
    }

    private static void mostPrice() {
        Doc.sentence("2", "cN(C) its price is N farthings at most;");
        UtilityBoard b = land();
        b.makes(0, 1, 5, false);
        b.price(1, 100000);
        Due.order(b, 0, 499, "c99999(w=w)");
        due("the most", b.buys(0, 1, false), 99999);
        Due.order(b, 0, 499, "c0(w=w)");
        due("nothing", b.buys(0, 1, false), 0);
        Due.order(b, 0, 499, "c7(k=2)");
        due("of another THING", b.buys(0, 1, false), 0);
        fault("c(w=w)", 1, 1);
        fault("c100000(w=w)", 2, 6);
    }

    private static void bookPoints() {
        Doc.sentence("2", "gN(C) a BOOK gets N POINTS in this WEEK;");
        UtilityBoard b = land();
        Due.order(b, 0, 499, "g99999(w=1);g0(w=2);g1(w=3)");
        due("not in WEEK 0", b.look(0, 0), 0);
        int[] then = {99999, 99999, 100000, 100000};
        for (int want : then) {
            b.goes();
            due("in WEEK " + b.count(0), b.look(0, 0), want);
        }
        fault("g(w=w)", 1, 1);
        fault("g100000(w=w)", 2, 6);
    }

    private static void margin() {
        Doc.sentence("2", "dN(C) N hundredths of margin are the shops';");
        UtilityBoard b = land();
        b.price(2, 1000);
        due("without one", b.loses(0, 2), 10 - 1000);
        Due.order(b, 0, 499, "d0(w=w)");
        due("none", b.loses(0, 2), 10 - 1000);
        Due.order(b, 0, 499, "d100(w=w)");
        due("all", b.loses(0, 2), 10);
        fault("d(w=w)", 1, 1);
        fault("d101(w=w)", 3, 1);
        fault("d100000(w=w)", 2, 6);
    }

    private static void strikes() {
        Doc.sentence("2", "xI.J strikes CLAUSE J (0 to 11) of ORDER I (0 to 29).");
        UtilityBoard b = land();
        Due.order(b, 0, 499, "b(w=w)" + ";x0.0".repeat(10) + ";b(w=w)");
        due("both bar", b.number(5, 0, NONE, 0, 0), 1);
        Due.order(b, 0, 499, "x0.0");
        due("the last bars still", b.number(5, 0, NONE, 0, 0), 1);
        due("it is CLAUSE 11", b.why(0, 0, 1), 11);
        Due.order(b, 0, 499, "x0.11");
        due("both are struck", b.number(5, 0, NONE, 0, 0), 0);
        stands("x29.11");
        fault("x30.0", 3, 1);
        fault("x0.12", 3, 3);
        fault("x0", 1, 2);
        fault("x0.", 1, 3);
        fault("x.0", 1, 1);
        fault("x0.0(w=w)", 1, 4);
        UtilityBoard c = land();
        for (int i = 0; i < 28; i++) {
            Due.order(c, 0, 499, "m(k=" + (i + 5) + ")");
        }
        due("ORDER 28", Due.order(c, 0, 499, "b(w=w)"), 28);
        due("ORDER 29", Due.order(c, 0, 499, "x28.0;x29.0;x28.11"), 29);
        due("the highest strikes the one below", c.number(5, 0, NONE, 0, 0), 0);
    }

    private static void conditions() {
        Doc.sentence("2", "C: PARTS with a | between two, one of which must hold; a PART: PIECES with an & between two, "
            + "all of which must; a PIECE: !PIECE, (C), or E, one of < > =, and E.");
        says("w=6", true);
        says("w=5|w=6", true);
        says("w=6|w=5", true);
        says("w=5|w=7", false);
        says("w=6&w=6", true);
        says("w=5&w=6", false);
        says("w=6&w=5", false);
        says("w=5&w=5|w=6", true);
        says("w=6|w=5&w=5", true);
        says("(w=6|w=5)&w=5", false);
        says("!w=6", false);
        says("!!w=6", true);
        says("!w=5&w=6", true);
        says("!w=6|w=6", true);
        says("!(w=6|w=6)", false);
        says("w<6", false);
        says("w<7", true);
        says("w>6", false);
        says("w>5", true);
        says("w=7", false);
        says("w=0|".repeat(36) + "w=6", true);
        says("w=6&".repeat(36) + "w=6", true);
        says("w=6&".repeat(36) + "w=5", false);
        fault("b()", 1, 2);
        fault("b(w=6|)", 1, 6);
        fault("b(|w=6)", 1, 2);
        fault("b(w=6&)", 1, 6);
        fault("b(&w=6)", 1, 2);
        fault("b(w=6||w=6)", 1, 6);
        fault("b(!)", 1, 3);
        fault("b(w!=6)", 1, 3);
        fault("b(())", 1, 3);
        fault("b(w)", 1, 3);
        fault("b(w<=6)", 1, 4);
        fault("b(w=6=6)", 1, 5);
        fault("b((w=6)=6)", 1, 7);
    }

    private static void sums() {
        Doc.sentence("2", "E: TERMS with + or - between two; a TERM: FACTORS with one of * / % between two; from the left on; "
            + "a FACTOR: [E], a number of one to five digits, or a letter:");
        says("9-3-2=4", true);
        says("9-[3-2]=8", true);
        says("2+3*4=14", true);
        says("[2+3]*4=20", true);
        says("100/7/2=7", true);
        says("100/[7/2]=33", true);
        says("100%7*2=4", true);
        says("20/3*3=18", true);
        says("7*5%4=3", true);
        says("1-2*3+4=0-1", true);
        says("0=00000", true);
        says("99999+1=100*1000", true);
        says("00006=w", true);
        says("[[[[[w]]]]]=6", true);
        fault("b(123456=w)", 2, 7);
        fault("b(w=000000)", 2, 9);
        fault("b(-1=w)", 1, 2);
        fault("b(w=1+)", 1, 6);
        fault("b(w=1++1)", 1, 6);
        fault("b(w=1*)", 1, 6);
        fault("b(w=[])", 1, 5);
        fault("b([w=1])", 1, 4);
        fault("b(w=[1)", 1, 6);
        fault("b(w=1])", 1, 5);
        fault("b(w=ww)", 1, 5);
        fault("b(w=1w)", 1, 5);
        fault("b(w=w1)", 1, 5);
        fault("b(w=[1][2])", 1, 7);
    }

    private static void holdsOf(String condition, int x, int m) {
        UtilityBoard b = land();
        due("the text " + condition, Due.order(b, 0, 499, "b(" + condition + ")"), 0);
        due(condition + " of " + x + " by " + m, b.number(5, x, m, 6, 0), 1);
    }

    private static void letters() {
        Doc.sentence("2", "w the WEEK; of the THING (of gN all 0): k KIND, n the NUMBER of its CLOTH or the number of its DRAWING, "
            + "q POCKETS, i INCHES, a WEAR of its CLOTH; of the MAKER (none: 0): t its TOWN, j whether NAMED (1, 0), "
            + "h its HANDS.");
        holdsOf("w=6&k=0&n=310&q=3&i=108&a=7", 0, NONE);
        holdsOf("w=6&k=1&n=1&q=2&i=40&a=0", 1, NONE);
        holdsOf("w=6&k=2&n=0&q=9&i=10000&a=0", 2, NONE);
        holdsOf("t=5&j=0&h=10", 0, 0);
        holdsOf("t=7&j=1&h=30", 1, 1);
        for (int x = 0; x < 3; x++) {
            holdsOf("t=0&j=0&h=0", x, NONE);
        }
        UtilityBoard b = land();
        Due.order(b, 0, 499, "g9(k=0&n=0&q=0&i=0&a=0&t=0&j=0&h=0&w=499)");
        due("of g all 0, on WEEK 499", b.number(2, NONE, NONE, 499, 0), 9);
        due("on WEEK 0", b.number(2, NONE, NONE, 0, 0), 0);
        Due.order(b, 0, 499, "b(j=0)");
        due("NAMED: 1", b.number(5, 0, 1, 0, 0), 0);
        b.named(1, false);
        due("not any more: 0", b.number(5, 0, 1, 0, 0), 1);
        for (int c = 'a'; c <= 'z'; c++) {
            if (LETTERS.indexOf(c) < 0) {
                fault("b(" + (char) c + "=0)", 1, 2);
            }
        }
        fault("b(W=0)", 1, 2);
    }

    private static void reckoned32Bits() {
        Doc.sentence("2", "All is reckoned with 32 bits, as the machine does; what is divided by 0 is REFUSED; then C does not hold.");
        says("65536*32768<0", true);
        says("65536*32768=0-65536*32768", true);
        says("65536*32767+65535>0", true);
        says("65536*32767+65535+1<0", true);
        says("65536*32768-1>0", true);
        says("65536*65536=0", true);
        says("99999*99999=14098*[50000*2]+65409", true);
        says("[0-32768]*65536/[0-1]=[0-32768]*65536", true);
        says("[0-32768]*65536%[0-1]=0", true);
        says("[0-7]/2=0-3", true);
        says("[0-7]%2=0-1", true);
        says("7/[0-2]=0-3", true);
        says("7%[0-2]=1", true);
        says("0-1<0", true);
        says("1/0=0", false);
        says("1%0=0", false);
        says("0/0=0", false);
        says("!1/0=0", false);
        says("!(1/0=0)", false);
        says("!!!!1/0=1", false);
        says("1/0=0|w=6", false);
        says("(1/0=0)|w=6", false);
        says("w=6&1/[w-6]=0", false);
        says("0*[1/0]=0", false);
        says("w=1%[w-6]", false);
        says("1/[65536*65536]=0", false);
        UtilityBoard b = land();
        Due.order(b, 0, 499, "p5(w=w);p6(1/w=0)");
        due("refused in WEEK 0", b.number(0, 0, NONE, 0, 0), 5);
        due("not refused, not 0 in WEEK 1", b.number(0, 0, NONE, 1, 0), 5);
        due("not refused in WEEK 2", b.number(0, 0, NONE, 2, 0), 6);
        manyRefused();
    }

    /** What was refused leaves nothing behind that another C would find. */
    private static void manyRefused() {
        UtilityBoard b = land();
        Due.order(b, 0, 499, "b(!(1+[2+[3+4/0]]=0))");
        Due.order(b, 0, 499, "p7(w+1=5)");
        for (int i = 0; i < 200; i++) {
            due("refused", b.number(5, 0, NONE, 2, 0), 0);
        }
        due("another C on WEEK 4", b.number(0, 0, NONE, 4, 0), 7);
        due("another C on WEEK 5", b.number(0, 0, NONE, 5, 0), 0);
    }

    private static void asMuchAsMatters() {
        Doc.sentence("2", "Of a C as much is asked, from the left, as matters.");
        says("w=6|1/0=0", true);
        says("1/0=0|w=6", false);
        says("w=5&1/0=0", false);
        says("!(w=5&1/0=0)", true);
        says("!(w=6|1/0=0)", false);
        says("w=5&1/0=0|w=6", true);
        says("w=6&1/0=0|w=6", false);
        says("w=6|w=6&1/0=0", true);
        says("(w=6|1/0=0)&w=6", true);
        says("(w=6|1/0=0)&1/0=0", false);
        says("(w=5&1/0=0)|w=6", true);
        says("(w=5&1/0=0|w=6)&(w=6|1/0=0)", true);
        says("w=5&(w=6|1/0=0)&1/0=0|w=6|1/0=0", true);
        says("w=5&w=6&1/0=0|!w=5", true);
        says("!w=6&1/0=0|w=6", true);
        says("!w=5|1/0=0", true);
    }

    /** Behind the prefix a byte of these may stand and no other, and the end if it is told. */
    private static void mayFollow(String prefix, String signs, boolean end) {
        for (int sign = 0; sign < 256; sign++) {
            int got = read(prefix + (char) sign);
            int there = -1000 - prefix.length();
            boolean may = signs.indexOf((char) sign) >= 0;
            Due.due("byte " + sign + " behind " + prefix + " answered " + got, may, got != there);
            Due.due("byte " + sign + " behind " + prefix + " may stand", may, got == 0 || got == there - 1);
        }
        if (!prefix.isEmpty()) {
            due("the end behind " + prefix, read(prefix), end ? 0 : -1000 - prefix.length());
        }
    }

    private static void fault1() {
        Doc.sentence("2", "FAULTS, the first from the left: 1 what can't stand there (the end, too);");
        String factor = "[" + DIGITS + LETTERS;
        String piece = "!(" + factor;
        mayFollow("", CLAUSES, false);
        mayFollow("b", "(", false);
        mayFollow("m", "(", false);
        for (char letter : "pcgd".toCharArray()) {
            mayFollow(String.valueOf(letter), DIGITS, false);
            mayFollow(letter + "0", DIGITS + "(", false);
        }
        mayFollow("x", DIGITS, false);
        mayFollow("x0", DIGITS + ".", false);
        mayFollow("x0.", DIGITS, false);
        mayFollow("x0.0", DIGITS + ";", true);
        mayFollow("x0.0;", CLAUSES, false);
        mayFollow("b(", piece, false);
        mayFollow("b(!", piece, false);
        mayFollow("b((", piece, false);
        mayFollow("b(w=w&", piece, false);
        mayFollow("b(w=w|", piece, false);
        mayFollow("b([", factor, false);
        mayFollow("b(w=", factor, false);
        mayFollow("b(w<", factor, false);
        mayFollow("b(w>", factor, false);
        for (char sign : "+-*/%".toCharArray()) {
            mayFollow("b(w" + sign, factor, false);
            mayFollow("b(w=w" + sign, factor, false);
        }
        mayFollow("b(w", "+-*/%<>=", false);
        mayFollow("b(0", DIGITS + "+-*/%<>=", false);
        mayFollow("b([w", "+-*/%]", false);
        mayFollow("b([w]", "+-*/%<>=", false);
        mayFollow("b(w=w", "+-*/%&|)", false);
        mayFollow("b(w=0", DIGITS + "+-*/%&|)", false);
        mayFollow("b(w=[w]", "+-*/%&|)", false);
        mayFollow("b(w=[0", DIGITS + "+-*/%]", false);
        mayFollow("b((w=w", "+-*/%&|)", false);
        mayFollow("b((w=w)", "&|)", false);
        mayFollow("b(!(w=w)", "&|)", false);
        mayFollow("b(w=w)", ";", true);
        mayFollow("b(w=w);", CLAUSES, false);
        fault("?b(?", 1, 0);
        fault("b(w=?;d101(", 1, 4);
        theEndBeforeOtherBytes();
    }

    /** A TEXT ends with its n bytes, though the tape goes on with what could stand there. */
    private static void theEndBeforeOtherBytes() {
        String whole = "b(!(w+[1*2]=3)&w<4|w>5);x0.11;d100(w=1)";
        for (int n = 1; n <= whole.length(); n++) {
            UtilityBoard b = new UtilityBoard();
            Due.feed(b, whole.chars().toArray());
            boolean stands = n == 23 || n == 28 || n == 29 || n == whole.length();
            due("the first " + n + " of " + whole, b.order(0, 499, n), stands ? 0 : -1000 - n);
        }
    }

    private static void fault2() {
        Doc.sentence("2", "2 a sixth digit, at it;");
        String[] before = {"p", "c", "g", "d", "x", "x1.", "b(", "b(w=", "b([", "b(w+", "b(w=w&", "b(w=w|", "b(!", "b(("};
        for (String text : before) {
            fault(text + "000000", 2, text.length() + 5);
            fault(text + "0000000", 2, text.length() + 5);
            int five = text.equals("x1.") ? 0 : -1000 - text.length() - 5;
            due("five digits, then the end: " + text, read(text + "00000"), five);
        }
        fault("d999999", 2, 6);
        fault("x999999.0", 2, 6);
        fault("x1.999999", 2, 8);
        fault("b(w=999999)", 2, 9);
        stands("p99999(99999=99999)");
        stands("d00100(w=1)");
        stands("x00029.00011");
    }

    private static void fault3() {
        Doc.sentence("2", "3 a number that it can't be, at its first digit (d to 100, I to 29, J to 11; "
            + "asked when its digits end);");
        stands("d0(w=1)");
        stands("d100(w=1)");
        fault("d101(w=1)", 3, 1);
        fault("d00101(w=1)", 3, 1);
        fault("d99999(w=1)", 3, 1);
        fault("d101", 3, 1);
        fault("d101?", 3, 1);
        fault("d1010", 3, 1);
        fault("d101000(w=1)", 2, 6);
        stands("x29.0");
        fault("x30.0", 3, 1);
        fault("x30", 3, 1);
        fault("x30?", 3, 1);
        fault("x99999.0", 3, 1);
        fault("x300000.0", 2, 6);
        fault("x30.12", 3, 1);
        stands("x0.11");
        fault("x0.12", 3, 3);
        fault("x0.12;", 3, 3);
        fault("x0.12?", 3, 3);
        fault("x29.00012", 3, 4);
        fault("x0.120000", 2, 8);
        fault("b(w=1);d101(w=1)", 3, 8);
        fault("b(w=1);x0.99", 3, 10);
        stands("p99999(w=1);c99999(w=1);g99999(w=1)");
    }

    private static void fault4() {
        Doc.sentence("2", "4 a 13th CLAUSE, at its letter (if that can stand there);");
        stands(TWELVE);
        for (char letter : CLAUSES.toCharArray()) {
            fault(TWELVE + ";" + letter, 4, 60);
            fault(TWELVE + ";" + letter + "?", 4, 60);
        }
        for (char sign : "?awknz0(;B ".toCharArray()) {
            fault(TWELVE + ";" + sign, 1, 60);
        }
        fault(TWELVE + ";", 1, 60);
        fault(TWELVE + "?", 1, 59);
        fault(TWELVE.substring(0, 54) + ";x0.12;x0.0", 3, 58);
        fault(TWELVE + ";x0.0;x0.0", 4, 60);
    }

    private static void fault5() {
        Doc.sentence("2", "5 a seventh of ( [ ! that are open in one another, at it (the ( of the CLAUSE counts; "
            + "a ! is open till its PIECE ends).");
        String[] opens = {"(((((", "!!!!!", "!(!(!", "((!!("};
        for (String five : opens) {
            String closes = five.replace("!", "").replace("(", ")");
            stands("b(" + five + "w=1" + closes + ")");
            fault("b(" + five + "(w=1" + closes + "))", 5, 7);
            fault("b(" + five + "!w=1" + closes + ")", 5, 7);
            fault("b(" + five + "[w]=1" + closes + ")", 5, 7);
            fault("b(" + five + "w=[1]" + closes + ")", 5, 9);
            fault("b(" + five + "w=(", 1, 9);
            fault("b(" + five + "w=!", 1, 9);
            fault("b(" + five + "?", 1, 7);
            fault("b(" + five, 1, 7);
        }
        fault("b(((((w=1&(", 1, 11);
        fault("b((((((w=1&(", 5, 11);
        fault("b((((((w=1)&(", 1, 13);
        fault("b(!!!!!w=1&(", 1, 12);
        fault("b((((!!w=1&(", 1, 12);
        stands("b([[[[[w]]]]]=[[[[[w]]]]])");
        fault("b([[[[[[w]]]]]]=1)", 5, 7);
        fault("b(w=[[[[[[w]]]]]])", 5, 9);
        fault("b([[[[[(", 1, 7);
        fault("b([[[[[!", 1, 7);
        stands("b(!!!!!w=1&!!!!!w=1|!!!!!w=1)");
        stands("b((((((w=1)))))&(((((w=1))))))");
        stands("b(!!!!(w=1)&[[[[[w]]]]]=1)");
        fault("b(!!!!([w]=1))", 5, 7);
        stands("b(!!!(w=1&[w]=1))");
        fault("b(!!!(w=1&[[w]]=1))", 5, 11);
        stands("b(!w=1&(!!!!w=1))");
        fault("b(!w=1&(!!!!!w=1))", 5, 12);
        fault("p1(((((((w=1)))))))", 5, 8);
    }

    private static void knownOn() {
        Doc.sentence("2", "Of a WEEK as KNOWN on t: of ORDERS told by t and in FORCE on that WEEK, from the highest number down: "
            + "each CLAUSE that is not STRUCK by then counts; an x that counts strikes its CLAUSE, "
            + "if that is of a lower ORDER of these.");
        UtilityBoard b = land();
        Due.order(b, 0, 499, "b(w=w)");
        b.goes();
        Due.order(b, 5, 7, "x0.0");
        b.goes();
        Due.order(b, 6, 6, "x1.0");
        int[][] barred = {{4, 0, 1}, {5, 0, 1}, {4, 1, 1}, {5, 1, 0}, {6, 1, 0}, {7, 1, 0}, {8, 1, 1}, {5, 2, 0}, {6, 2, 1},
            {7, 2, 0}, {6, 499, 1}, {0, 499, 1}, {499, 499, 1}};
        for (int[] w : barred) {
            due("on " + w[0] + " as KNOWN on " + w[1], b.number(5, 0, NONE, w[0], w[1]), w[2]);
        }
        UtilityBoard own = land();
        Due.order(own, 0, 499, "x0.1;b(w=w);x0.0;x1.0");
        due("no CLAUSE of its own ORDER, no higher one", own.number(5, 0, NONE, 0, 0), 1);
        Due.order(own, 0, 499, "b(w=w);x1.0");
        Due.order(own, 0, 499, "x0.1;x0.4;x0.11;x1.2");
        due("ORDER 1 bars still", own.why(0, 0, 0), 1);
        due("a CLAUSE that is not there", own.beside(1), 3);
        Due.order(own, 0, 499, "x2.0");
        due("what strikes is struck", own.why(0, 0, 0), 0);
        due("its CLAUSE", own.why(0, 0, 1), 1);
        chain();
    }

    /** Each of thirty ORDERS strikes what strikes in the one below. */
    private static void chain() {
        UtilityBoard b = land();
        Due.order(b, 0, 499, "b(w=w)");
        for (int i = 1; i < 30; i++) {
            Due.order(b, 0, 499, "x" + (i - 1) + ".0");
            due("ORDERS " + (i + 1), b.number(5, 0, NONE, 0, 0), i % 2 == 0 ? 1 : 0);
        }
        due("without the last", b.beside(29), 0);
        due("with the last", b.beside(NONE), 3);
    }

    private static void theNumber() {
        Doc.sentence("2", "THE NUMBER of p, c, g, d: N of the last CLAUSE of the highest ORDER that counts and holds; "
            + "without one p, g, d 0, c none.");
        UtilityBoard b = land();
        int[] without = {0, NONE, 0, 0};
        for (int which = 0; which < 4; which++) {
            due("no ORDERS, " + which, b.number(which, which == 2 ? NONE : 0, NONE, 0, 0), without[which]);
        }
        String letters = "pcgd";
        for (int which = 0; which < 4; which++) {
            UtilityBoard c = land();
            int x = which == 2 ? NONE : 0;
            char p = letters.charAt(which);
            Due.order(c, 0, 499, p + "1(w=9)");
            due("none holds, " + p, c.number(which, x, NONE, 0, 0), without[which]);
            due("one holds, " + p, c.number(which, x, NONE, 9, 0), 1);
            Due.order(c, 0, 499, p + "2(w=w);" + p + "3(w=w);" + p + "4(w=9)");
            due("the last that holds, " + p, c.number(which, x, NONE, 0, 0), 3);
            due("the last, " + p, c.number(which, x, NONE, 9, 0), 4);
            Due.order(c, 0, 499, p + "0(w=8);x1.1;x1.2");
            due("the highest that holds, " + p, c.number(which, x, NONE, 0, 0), 2);
            due("a 0 counts, " + p, c.number(which, x, NONE, 8, 0), 0);
            Due.order(c, 0, 499, "x0.0;x1.0;x2.0");
            due("all are struck, " + p, c.number(which, x, NONE, 8, 0), without[which]);
        }
    }

    private static void knownNow() {
        Doc.sentence("2", "(As KNOWN now, of NOW, where nothing else is told.)");
        UtilityBoard b = land();
        b.price(1, 50);
        Due.order(b, 2, 2, "b(k=1)");
        Due.order(b, 3, 3, "c5(w=w);m(w=w);p1(w=w);d100(w=w)");
        due("in WEEK 0 it may be made", b.makes(0, 1, 4, false), 4);
        due("why not", b.why(1, 0, 0), NONE);
        due("MARKED it may not", b.makes(0, 1, 1, true), -3);
        due("50 are paid", b.buys(0, 1, false), 50);
        goesTo(b, 2);
        due("in WEEK 2 it may not", b.makes(0, 1, 4, false), -2);
        due("why not now", b.why(1, 0, 0), 0);
        due("beside", b.beside(NONE), 2);
        goesTo(b, 3);
        due("in WEEK 3 it may, MARKED too", b.makes(0, 1, 1, true), 4);
        due("beside again", b.beside(NONE), 3);
        due("5 would be paid, of which nothing comes in", b.loses(0, 1), 40 + 10);
        due("a POINT is needed", b.buys(0, 1, false), -3);
        goesTo(b, 4);
        due("50 again", b.buys(0, 1, false), 50);
        due("all comes in", b.loses(0, 1), 40 + 10 - 50);
    }

    private static void why() {
        Doc.sentence("2", "WHY a THING may not be made by a MAKER: the lowest ORDER with a b that counts and holds, "
            + "its first such CLAUSE.");
        UtilityBoard b = land();
        due("no ORDERS", b.why(0, 0, 0), NONE);
        Due.order(b, 0, 499, "b(w=w);b(w=w)");
        Due.order(b, 0, 499, "b(k=2);m(w=w);b(k=1);b(h=10);b(h=10)");
        Due.order(b, 0, 499, "b(w=w)");
        due("the lowest ORDER", b.why(0, 0, 0), 0);
        due("its first CLAUSE", b.why(0, 0, 1), 0);
        Due.order(b, 0, 499, "x0.0;x2.0");
        due("its first that counts", b.why(0, 0, 1), 1);
        Due.order(b, 0, 499, "x0.1");
        due("the lowest that counts and holds", b.why(0, 0, 0), 1);
        due("its first that holds", b.why(0, 0, 1), 3);
        due("of a chair", b.why(1, 0, 1), 2);
        due("of an other", b.why(2, 0, 1), 0);
        due("by another MAKER it may", b.why(0, 1, 0), NONE);
        due("by another MAKER no CLAUSE", b.why(0, 1, 1), NONE);
        due("a chair by another", b.why(1, 1, 1), 2);
    }
}
