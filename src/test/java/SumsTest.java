/** Promises 13 to 17. */
public final class SumsTest {
    private static final Check CHECK = new Check("SumsTest");

    public static void main(String[] args) {
        terms();
        scaled();
        multiply();
        feed();
        texts();
        faults();
        spent();
        parts();
        CHECK.end();
    }

    private static void due(String call, long got, long want) {
        CHECK.due(call, got, want);
    }

    /** Promise 13. */
    private static void terms() {
        HookBoxes x = new HookBoxes();
        Check.read(x, "5-2*q*[21]");
        due("term(0, 0)", x.term(0, 0), 5);
        due("term(1, 4)", x.term(1, 4), -2);
        due("term(1, 0)", x.term(1, 0), 0);
        due("term(0, 4)", x.term(0, 4), 0);
        int[][] others = {{-1, 0}, {8, 0}, {0, -1}, {0, 6}, {1, 39}, {2, -31}, {0, 35}, {Integer.MIN_VALUE, 0},
            {0, Integer.MAX_VALUE}, {Integer.MAX_VALUE, Integer.MAX_VALUE}};
        for (int[] o : others) {
            due("term(" + o[0] + ", " + o[1] + ")", x.term(o[0], o[1]), 0);
        }
    }

    /** Promise 14. */
    private static void scaled() {
        HookBoxes x = new HookBoxes();
        Check.read(x, "2-q-[1]*1000*1000");
        due("scaled(0, 0, 7)", x.scaled(0, 0, 7), 14);
        due("scaled(0, 0, -7)", x.scaled(0, 0, -7), -14);
        due("greatest", x.scaled(0, 0, 1073741823), 2147483646);
        due("beyond", x.scaled(0, 0, 1073741824), Long.MIN_VALUE);
        due("least", x.scaled(0, 0, -1073741824), Integer.MIN_VALUE);
        due("beyond", x.scaled(0, 0, -1073741825), Long.MIN_VALUE);
        due("beyond", x.scaled(0, 0, Integer.MIN_VALUE), Long.MIN_VALUE);
        due("less 1 times the least", x.scaled(1, 0, Integer.MIN_VALUE), Long.MIN_VALUE);
        due("less 1 times the greatest", x.scaled(1, 0, Integer.MAX_VALUE), -2147483647);
        due("2147", x.scaled(0, 1, 2147), -2147000000);
        due("2148", x.scaled(0, 1, 2148), Long.MIN_VALUE);
        due("of 0", x.scaled(7, 5, Integer.MIN_VALUE), 0);
        int[][] no = {{-1, 0}, {8, 0}, {0, -1}, {0, 6}};
        for (int[] o : no) {
            due("scaled(" + o[0] + ", " + o[1] + ", 0)", x.scaled(o[0], o[1], 0), Long.MIN_VALUE);
        }
    }

    /** Promise 15. */
    private static void multiply() {
        HookBoxes x = new HookBoxes();
        due("0 times", x.multiply(1), 0);
        Check.read(x, "[1]");
        due("[1] [1]", x.multiply(1), 2);
        due("term(0, 2)", x.term(0, 2), 1);
        due("term(0, 3)", x.term(0, 3), 1);
        due("[1] [1] [1]", x.multiply(1), 1);
        due("term(0, 4)", x.term(0, 4), 2);
        due("multiply(0)", x.multiply(0), 1);
        due("multiply(6)", x.multiply(6), -2);
        due("multiply(-1)", x.multiply(-1), -2);
        due("multiply(greatest)", x.multiply(Integer.MAX_VALUE), -2);
        due("term(0, 4)", x.term(0, 4), 2);
        Check.read(x, "[1]*1000*600");
        due("600000 [1] [1]", x.multiply(1), 2);
        due("1200000 [21]", x.multiply(1), -3);
        due("the sum stays", x.term(0, 2), 600000);
        due("the sum stays", x.term(0, 3), 600000);
        due("count(3)", x.count(3), 2);
        Check.read(x, "[1]*1000*500");
        x.multiply(1);
        due("1000000 [21]", x.multiply(1), 1);
        due("term(0, 4)", x.term(0, 4), 1000000);
        Check.read(x, "q*q*q*q*q*q*q*([2]-[11])");
        due("what goes round too often comes to nothing, all added up", x.multiply(4), 0);
        Check.read(x, "q*q*q*q*q*q*q*[22]");
        due("8 turns", x.multiply(1), -3);
        due("the sum stays", x.term(7, 5), 1);
    }

    /** Promise 16. */
    private static void feed() {
        HookBoxes x = new HookBoxes();
        int[][] bad = {{0, 1, 1, 1, 1, 1}, {6, 1, 1, 1, 1, 1}, {-1, 1, 1, 1, 1, 1}, {1, -1, 1, 1, 1, 1}, {1, 256, 1, 1, 1, 1},
            {1, 1, -1, 1, 1, 1}, {1, 1, 1, 256, 1, 1}, {1, 1, 1, 1, -1, 1}, {1, 1, 1, 1, 1, 256}, {5, 1, 1, 1, 1, -1},
            {Integer.MIN_VALUE, 1, 1, 1, 1, 1}, {Integer.MAX_VALUE, 1, 1, 1, 1, 1}};
        for (int[] b : bad) {
            due("feed of bad", x.feed(b[0], b[1], b[2], b[3], b[4], b[5]), -2);
        }
        due("count(4)", x.count(4), 0);
        for (int k = 1; k <= 11; k++) {
            due("feed(5)", x.feed(5, 0, 255, 48, 49, 50), 5 * k);
        }
        due("feed(3)", x.feed(3, 48, 48, 48, 0, 0), 58);
        due("feed(3): 2 have room", x.feed(3, 48, 48, 48, 0, 0), -4);
        due("count(4): none came", x.count(4), 58);
        due("BAD ahead of FULL", x.feed(3, 48, 48, 48, 0, 256), -2);
        due("feed(2)", x.feed(2, 48, 48, 0, 0, 0), 60);
        due("feed(1)", x.feed(1, 48, 0, 0, 0, 0), -4);
        due("read()", x.read(), -100);
        due("count(4)", x.count(4), 0);
        // the order of the bytes
        x.feed(5, '1', '2', '3', '4', '+');
        x.feed(4, '5', '6', '7', '8', '9');
        due("read()", x.read(), 1);
        due("1234 + 5678", x.term(0, 0), 6912);
    }

    private static void read(HookBoxes x, String text, int want) {
        due("read() of " + text, Check.read(x, text), want);
        due("the tape is empty behind " + text, x.count(4), 0);
    }

    /** Promise 17: what is a text. */
    private static void texts() {
        HookBoxes x = new HookBoxes();
        read(x, "0", 0);
        read(x, "0007", 1);
        due("term(0, 0)", x.term(0, 0), 7);
        read(x, "9999", 1);
        due("term(0, 0)", x.term(0, 0), 9999);
        read(x, "q", 1);
        due("term(1, 0)", x.term(1, 0), 1);
        due("term(0, 0)", x.term(0, 0), 0);
        read(x, "[]", 1);
        due("term(0, 0)", x.term(0, 0), 1);
        read(x, "1+[]+q+[22]+[21]-[2]", 5);
        due("term(0, 0)", x.term(0, 0), 2);
        due("term(0, 2)", x.term(0, 2), -1);
        read(x, "5-3-1", 1);
        due("from the left on", x.term(0, 0), 1);
        read(x, "2+3*4", 1);
        due("* ahead of +", x.term(0, 0), 14);
        read(x, "(2+3)*4", 1);
        due("( ) ahead of *", x.term(0, 0), 20);
        read(x, "5-(3-1)", 1);
        due("( )", x.term(0, 0), 3);
        read(x, "1-1", 0);
        read(x, "((((3))))", 1);
        due("four open at once", x.term(0, 0), 3);
        read(x, "((((1))))+((((2))))*(((([1]))))", 2);
        due("four open, again", x.term(0, 1), 2);
        read(x, "[21]*[21]", 2);
        due("q [2]", x.term(1, 2), 1);
        due("q [11]", x.term(1, 3), 1);
        read(x, "q*[22]*[22]", 1);
        due("q q q", x.term(3, 0), 1);
        read(x, "(1+q)*(1-q)*(1+q*q)", 2);
        due("1 - q to the 4th", x.term(4, 0), -1);
        x.box(4, 7);
        read(x, "[3333]*[3210]", -107);
        read(x, "[3333]*[321]", 1);
        StringBuilder ones = new StringBuilder("1");
        for (int n = 1; n < 30; n++) {
            ones.append("+1");
        }
        read(x, ones + "+", -160);
        read(x, ones + "0", 1);
        due("28 ones and 10, 1", x.term(0, 0), 39);
    }

    /** Promise 17: the place of the fault, of box 2, 4. */
    private static void faults() {
        HookBoxes x = new HookBoxes();
        Check.read(x, "7");
        Object[][] want = {{"", 0}, {" ", 0}, {"1 ", 1}, {"-1", 0}, {"+", 0}, {"*", 0}, {")", 0}, {"]", 0}, {"x", 0}, {"1+", 2},
            {"1*", 2}, {"1+*", 2}, {"1--1", 2}, {"12345", 4}, {"1)", 1}, {"(1", 2}, {"(", 1}, {"()", 1}, {"(1))", 3},
            {"qq", 1}, {"2q", 1}, {"q2", 1}, {"1[1]", 1}, {"[1]1", 3}, {"(1)(1)", 3}, {"(1)2", 3}, {"2(1)", 1},
            {"[", 1}, {"[1", 2}, {"[21", 3}, {"[x", 1}, {"[1x", 2}, {"[21x]", 3}, {"[q]", 1}, {"[2 1]", 2},
            {"[12]", 0}, {"[12", 0}, {"[12x", 0}, {"[3]", 0}, {"[3", 0}, {"[0]", 0}, {"[10]", 0}, {"[01]", 0}, {"[20", 0},
            {"[111]", 0}, {"[1111", 0}, {"[11111]", 0}, {"[22222]", 0}, {"1+[2]*[12]", 6}, {"1+[12]+x", 2},
            {"(((((1)))))", 4}, {"((((", 4}, {"(((((", 4}, {"((((1)))", 8}, {"((((1))))*((((1+((", 16},
            {"Q", 0}, {"1.", 1}, {"\u0000", 0}, {"\u00ff", 0}, {"1\u0000", 1}};
        for (Object[] w : want) {
            read(x, (String) w[0], -100 - (Integer) w[1]);
        }
        due("the sum stays", x.term(0, 0), 7);
        due("the sum stays", x.count(3), 1);
        // a fault is told ahead of what is spent
        read(x, "9999*9999*x", -110);
        read(x, "9999*9999*[3]", -110);
        read(x, "(9999*9999", -110);
        x.box(4, 7);
        read(x, "[1111]", 1);
        read(x, "[11111]", -105);
        read(x, "[1111", -105);
        read(x, "[11110]", -105);
        read(x, "[4]", -100);
        read(x, "[1112]", -100);
        x.box(1, 7);
        read(x, "[6]", 1);
        read(x, "[11]", -100);
        read(x, "[7]", -100);
    }

    /** Promise 17: what is spent. */
    private static void spent() {
        HookBoxes x = new HookBoxes();
        Check.read(x, "7+q");
        String[] texts = {"1000*1000+1", "1000*1000+1-1", "0-1000*1000-1", "1001*1000", "9999*9999", "9999*9999*0",
            "0*(9999*9999)", "(9999*9999)-(9999*9999)", "1000*1000*[1]+[1]", "q*q*q*q*q*q*q*q", "q*q*q*q*q*q*q*[22]*[1]",
            "q*q*q*q*q*q*q*[22]*q*0", "1000*([1]+[2])*1001", "1000*500*[1]*[1]*[1]*2", "1000*501*[1]*[1]*[1]",
            "([1]+(9999*(1000+q)))*0"};
        for (String text : texts) {
            read(x, text, -3);
            due("the sum stays behind " + text, x.term(0, 0), 7);
            due("the sum stays behind " + text, x.count(3), 2);
        }
        read(x, "1000*1000", 1);
        read(x, "0-1000*1000", 1);
        due("least", x.term(0, 0), -1000000);
        read(x, "1000*1000-1+1", 1);
        due("greatest", x.term(0, 0), 1000000);
        read(x, "1-1000*1000-1", 1);
        due("least", x.term(0, 0), -1000000);
        read(x, "q*q*q*q*q*q*q", 1);
        due("7 turns", x.term(7, 0), 1);
        read(x, "q*q*q*q*q*q*q*([2]-[11])*[2]", -3);
        // q [1] of the one takes away q [1] of the other
        read(x, "q*q*q*q*q*q*q*([2]-[11])*[21]", 0);
        read(x, "q*q*q*q*q*q*q*([22]-[22])*q", 0);
        read(x, "1000*500*[1]*[1]*[1]", 1);
        due("greatest", x.term(0, 4), 1000000);
        read(x, "(1000*1000*[2]-1000*1000*[11])*[21]*9999", 0);
        read(x, "(1000*1000+q)*1000*1000", -3);
        x.box(4, 7);
        read(x, "q*q*q*q*q*q*q*[333]*(q*q*q*q*q*q*q*[333])", -3);
        read(x, "q*q*q*q*q*q*q*[3333]*(q*q*q*q*q*q*q*[3333])", -3);
        read(x, "q*q*q*q*q*q*q*[3333]*(q*q*q*q*q*q*q*[3333]*0)", 0);
        read(x, "q*q*q*q*[3333]*[3333]", 1);
        due("17 turns would be the most, 7 are", x.term(7, x.number(3)) + x.term(7, x.number(111)), 1);
    }

    /** Promise 17 and 25: parts. */
    private static void parts() {
        HookBoxes x = new HookBoxes();
        due("of none", x.count(5), 0);
        Check.read(x, "[3]");
        due("of none but a fault", x.count(5), 0);
        Object[][] want = {{"1", 1}, {"q", 1}, {"[]", 1}, {"(1)", 1}, {"(((1)))", 1}, {"1+2", 3}, {"1-2", 3}, {"1+2-3", 5},
            {"1*2", 2}, {"1*2*3", 3}, {"1*2*3*4", 4}, {"1*(2*3)", 3}, {"(1+2)*3", 4}, {"3*(1+2)", 4}, {"(1+2)*(3+4)", 4},
            {"(1+2+3)*(3+4)", 6}, {"1+2*3", 4}, {"1*2+3", 4}, {"1*2+3*4", 5}, {"1*(2+3)*4", 5}, {"1*2*(3+4)", 4},
            {"1*2*3*(4*5)", 4}, {"1-(2+3)", 5}};
        for (Object[] w : want) {
            Check.read(x, (String) w[0]);
            due("count(5) of " + w[0], x.count(5), (Integer) w[1]);
        }
        Check.read(x, "1+2+3+");
        due("a fault leaves it", x.count(5), 5);
        due("spent", Check.read(x, "9999*9999*1+[1]*(q+q)"), -3);
        due("of one that was spent", x.count(5), 3 + 4 + 1);
        x.box(3, 7);
        x.image();
        Check.read(x, "1");
        x.back();
        due("the image does not keep it", x.count(5), 1);
    }
}
