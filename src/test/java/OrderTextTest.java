/** TEXTS of ORDERS (promises 16 to 19): their FAULTS, what a C says, what counts on a WEEK as KNOWN on another. */
public final class OrderTextTest {
    private static final int NONE = UtilityBoard.NONE;

    public static void main(String[] args) {
        misplaced();
        digitsAndNumbers();
        tooManyClauses();
        tooDeep();
        reckoning();
        leftToRight();
        lettersOfThings();
        lettersOfMakers();
        highestAndLast();
        striking();
        knownThen();
        Due.finish();
    }

    private static void fault(String text, int want) {
        UtilityBoard board = new UtilityBoard();
        Due.due(text, Due.order(board, 0, 499, text), want);
        Due.due("orders after " + text, board.count(5), want < 0 ? 0 : 1);
        Due.due("tape after " + text, board.count(10), 0);
    }

    private static void misplaced() {
        fault("z(w=1)", -1000);
        fault(" b(w=1)", -1000);
        fault(";b(w=1)", -1000);
        fault("b", -1001);
        fault("bw=1)", -1001);
        fault("b(", -1002);
        fault("b()", -1002);
        fault("b(w)", -1003);
        fault("b(w=)", -1004);
        fault("b(w=1", -1005);
        fault("b(w=1)b", -1006);
        fault("b(w=1) ", -1006);
        fault("b(w=1);", -1007);
        fault("b(w=1);;", -1007);
        fault("b(w=1&)", -1006);
        fault("b(w=1|&w=1)", -1006);
        fault("b(w=1=1)", -1005);
        fault("b(w+=1)", -1004);
        fault("b(-1=w)", -1002);
        fault("b(w=(1))", -1004);
        fault("b(w=!1)", -1004);
        fault("b([w)=1)", -1004);
        fault("b([w=1])", -1004);
        fault("b(w=1])", -1005);
        fault("b((w=1)", -1007);
        fault("b((w=1)=1)", -1007);
        fault("b((w)=1)", -1004);
        fault("b(!w)", -1004);
        fault("b(!)", -1003);
        fault("b(w1=1)", -1003);
        fault("b(1w=1)", -1003);
        fault("b(y=1)", -1002);
        fault("b(W=1)", -1002);
        fault("b(w=1" + (char) 233 + ")", -1005);
        fault("b5(w=1)", -1001);
        fault("m5(w=1)", -1001);
        fault("p(w=1)", -1001);
        fault("p5", -1002);
        fault("p5w=1)", -1002);
        fault("x", -1001);
        fault("x1", -1002);
        fault("x1.", -1003);
        fault("x1,2", -1002);
        fault("x1.2(w=1)", -1004);
        fault("x.1", -1001);
        fault("x29.11", 0);
        fault("b(w=1);m(w=1);p5(w=1);c6(w=1);g7(w=1);d8(w=1);x0.0", 0);
    }

    private static void digitsAndNumbers() {
        fault("p99999(w=99999)", 0);
        fault("p123456(w=1)", -2006);
        fault("c000000(w=1)", -2006);
        fault("d101(w=1)", -3001);
        fault("d100(w=1)", 0);
        fault("d00100(w=1)", 0);
        fault("d101", -3001);
        fault("d999?", -3001);
        fault("d999999(w=1)", -2006);
        fault("x30.0", -3001);
        fault("x30", -3001);
        fault("x29.12", -3004);
        fault("x29.12;", -3004);
        fault("x00029.00011", 0);
        fault("x000000.0", -2006);
        fault("x1.000000", -2008);
        fault("b(w=123456)", -2009);
        fault("b(123456=w)", -2007);
        fault("b(w=12345[)", -1009);
    }

    private static void tooManyClauses() {
        String twelve = "x0.0" + ";x0.0".repeat(11);
        fault(twelve, 0);
        fault(twelve + ";x0.0", -4060);
        fault(twelve + ";b", -4060);
        fault(twelve + ";?", -1060);
        fault(twelve + ";", -1060);
        UtilityBoard board = new UtilityBoard();
        Due.order(board, 0, 0, twelve);
        Due.order(board, 0, 0, "x0.0");
        Due.due("count(20)", board.count(20), 12);
        Due.due("count(21)", board.count(21), 1);
        Due.due("count(22)", board.count(22), NONE);
    }

    private static void tooDeep() {
        fault("b((((((w=1))))))", 0);
        fault("b(((((((w=1)))))))", -5007);
        fault("b(!!!!!w=1)", 0);
        fault("b(!!!!!!w=1)", -5007);
        fault("b(!!!!!(w=1))", -5007);
        fault("b(!!!!![w]=1)", -5007);
        fault("b(!!!!!w=[1])", -5009);
        fault("b([[[[[w]]]]]=1)", 0);
        fault("b([[[[[[w]]]]]]=1)", -5007);
        fault("b(!!!!!w=1&!!!!!w=1)", 0);
        fault("b(!(!!(w=1)&[w]=1))", 0);
        fault("b(!(!!(w=1&[w]=1)))", -5011);
        // What cannot stand there is no seventh that is open.
        fault("b(((((([(w)", -5007);
        fault("b((((((w=(w)", -1009);
        fault("b((((((w=!w)", -1009);
    }

    private static UtilityBoard withThings() {
        UtilityBoard board = new UtilityBoard();
        board.cloth(209, 100, 72);
        board.cloth(310, 7, 5);
        board.drawing(2);
        board.drawing(3);
        board.thing(0, 1, 3, 108);
        board.thing(1, 1, 2, 40);
        board.thing(2, NONE, 9, 10000);
        board.maker(5, 50, 10, 4, 40);
        board.maker(7, 50, 30, 4, 40);
        return board;
    }

    private static void holds(String condition, int x, int m, int week, int want) {
        UtilityBoard board = withThings();
        board.named(1, true);
        Due.due(condition, Due.order(board, 0, 499, "b(" + condition + ")"), 0);
        Due.due(condition + " of " + x + " by " + m, board.number(5, x, m, week, 0), want);
    }

    private static void says(String condition, boolean want) {
        holds(condition, 0, NONE, 6, want ? 1 : 0);
    }

    private static void reckoning() {
        says("1+2*3=7", true);
        says("[1+2]*3=9", true);
        says("9-3-2=4", true);
        says("9-[3-2]=8", true);
        says("20/3*3=18", true);
        says("20%7*2=12", true);
        says("2+7/2-1=4", true);
        says("0-7/2=0-3", true);
        says("[0-7]/2=0-3", true);
        says("[0-7]%2=0-1", true);
        says("65536*65536=0", true);
        says("46341*46341<0", true);
        says("[0-32768]*65536/[0-1]=[0-32768]*65536", true);
        says("[0-32768]*65536%[0-1]=0", true);
        says("1<1", false);
        says("1>1", false);
        says("2>1", true);
        says("1<2", true);
        says("00007=7", true);
        says("w=6", true);
        says("!w=5", true);
        says("!!w=5", false);
        says("!(w=6&w=5)", true);
        says("w=5&w=6|w=6", true);
        says("w=6|w=6&w=5", true);
        says("(w=6|w=6)&w=5", false);
        says("!w=6|w=6", true);
        says("!w=5&w=5", false);
        says("w=5|w=4|w=6", true);
        says("w=6&w>5&w<7", true);
        says("(w=5|w=6)&(w=6|w=5)&!(w=5)", true);
    }

    private static void leftToRight() {
        says("1/0=0", false);
        says("1%0=0", false);
        says("!1/0=0", false);
        says("!(1/0=0)", false);
        says("1/0=0|w=6", false);
        says("(1/0=0)|w=6", false);
        says("w=6|1/0=0", true);
        says("w=5&1/0=0|w=6", true);
        says("w=6&1/0=0|w=6", false);
        says("!(w=5&1/0=0)", true);
        says("(w=6|1/0=0)&w=6", true);
        says("(w=6|1/0=0)&1/0=0", false);
        says("0*[1/0]=0", false);
        says("w=6|w=6&1/[w-6]=0|1/0=0", true);
    }

    private static void lettersOfThings() {
        holds("k=0&n=310&q=3&i=108&a=7&w=6", 0, NONE, 6, 1);
        holds("k=1&n=1&q=2&i=40&a=0", 1, NONE, 6, 1);
        holds("k=2&n=0&q=9&i=10000&a=0", 2, NONE, 6, 1);
        UtilityBoard board = withThings();
        Due.order(board, 0, 499, "g9(k+n+q+i+a+t+j+h=0&w=8)");
        Due.due("g on 8", board.number(2, NONE, NONE, 8, 0), 9);
        Due.due("g on 7", board.number(2, NONE, NONE, 7, 0), 0);
    }

    private static void lettersOfMakers() {
        holds("t=5&j=0&h=10", 0, 0, 6, 1);
        holds("t=7&j=1&h=30", 0, 1, 6, 1);
        holds("t+j+h=0", 0, NONE, 6, 1);
        UtilityBoard board = withThings();
        Due.order(board, 0, 499, "m(j=1)");
        Due.due("m before", board.number(4, 0, 1, 0, 0), 0);
        board.named(1, true);
        Due.due("m named", board.number(4, 0, 1, 0, 0), 1);
        board.named(1, false);
        Due.due("m not any more", board.number(4, 0, 1, 0, 0), 0);
    }

    private static void highestAndLast() {
        UtilityBoard board = withThings();
        for (int which = 0; which < 6; which++) {
            boolean g = which == 2;
            Due.due("none " + which, board.number(which, g ? NONE : 0, NONE, 0, 0), which == 1 ? NONE : 0);
        }
        Due.order(board, 0, 9, "p1(w=w);p2(w=w);p3(w=1);c0(w=1);d4(k=0);d5(k=0);d6(k=1)");
        Due.due("last p", board.number(0, 0, NONE, 0, 0), 2);
        Due.due("last p on 1", board.number(0, 0, NONE, 1, 0), 3);
        Due.due("c 0", board.number(1, 0, NONE, 1, 0), 0);
        Due.due("c none", board.number(1, 0, NONE, 0, 0), NONE);
        Due.due("d of a coat", board.number(3, 0, NONE, 0, 0), 5);
        Due.due("d of a chair", board.number(3, 1, NONE, 0, 0), 6);
        Due.order(board, 2, 4, "p9(k=0);p8(k=1);b(k=0);b(h=10)");
        Due.due("p before it is in force", board.number(0, 0, NONE, 1, 0), 3);
        Due.due("p on its first week", board.number(0, 0, NONE, 2, 0), 9);
        Due.due("p on its last week", board.number(0, 0, NONE, 4, 0), 9);
        Due.due("p behind it", board.number(0, 0, NONE, 5, 0), 2);
        Due.due("p of a lower order", board.number(0, 2, NONE, 2, 0), 2);
        Due.due("why in week 0", board.why(0, 0, 0), NONE);
        board.goes();
        board.goes();
        Due.order(board, 2, 4, "b(k=0)");
        Due.due("why: the lowest order", board.why(0, 0, 0), 1);
        Due.due("why: its first clause", board.why(0, 0, 1), 2);
        Due.due("why of a chair", board.why(1, 0, 1), 3);
        Due.due("why of a chair by another", board.why(1, 1, 0), NONE);
    }

    private static void striking() {
        UtilityBoard board = withThings();
        Due.order(board, 0, 9, "b(k=0);b(k=1)");
        Due.order(board, 0, 5, "x0.0");
        Due.due("struck", board.number(5, 0, NONE, 5, 0), 0);
        Due.due("not struck any more", board.number(5, 0, NONE, 6, 0), 1);
        Due.due("another clause", board.number(5, 1, NONE, 5, 0), 1);
        Due.order(board, 0, 3, "x1.0");
        Due.due("the striker struck", board.number(5, 0, NONE, 3, 0), 1);
        Due.due("the striker not struck", board.number(5, 0, NONE, 4, 0), 0);
        strikesNothingElse();
    }

    private static void strikesNothingElse() {
        UtilityBoard own = withThings();
        Due.order(own, 0, 9, "b(k=2);x0.0");
        Due.due("its own order", own.number(5, 2, NONE, 0, 0), 1);
        UtilityBoard higher = withThings();
        Due.order(higher, 0, 9, "x1.0;x29.0");
        Due.order(higher, 0, 9, "b(k=2)");
        Due.due("a higher order", higher.number(5, 2, NONE, 0, 0), 1);
        Due.order(higher, 0, 9, "x1.1;x1.11");
        Due.due("a clause that is not there", higher.number(5, 2, NONE, 0, 0), 1);
        Due.order(higher, 0, 9, "p5(k=2);x1.0;x1.0");
        Due.due("struck twice", higher.number(5, 2, NONE, 0, 0), 0);
        UtilityBoard chain = withThings();
        Due.order(chain, 0, 9, "b(k=2)");
        Due.order(chain, 0, 9, "x0.0");
        Due.order(chain, 0, 9, "x1.0");
        Due.order(chain, 0, 9, "x2.0");
        Due.due("a chain", chain.number(5, 2, NONE, 0, 0), 0);
        Due.due("a chain without its end", chain.beside(3), 2);
        Due.due("a chain with its end", chain.beside(NONE), 3);
    }

    private static void knownThen() {
        UtilityBoard board = withThings();
        Due.order(board, 0, 499, "p5(w=w)");
        board.goes();
        board.goes();
        Due.order(board, 0, 499, "p6(w=w);x0.0");
        Due.due("known on 0", board.number(0, 0, NONE, 0, 0), 5);
        Due.due("known on 1", board.number(0, 0, NONE, 300, 1), 5);
        Due.due("known on 2", board.number(0, 0, NONE, 0, 2), 6);
        Due.due("known on 499", board.number(0, 0, NONE, 499, 499), 6);
        Due.order(board, 0, 1, "p7(w=w)");
        Due.due("behind its time", board.number(0, 0, NONE, 1, 2), 7);
        Due.due("not told then", board.number(0, 0, NONE, 1, 1), 5);
    }
}
