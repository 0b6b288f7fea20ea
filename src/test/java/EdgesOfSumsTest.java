/** A test for each sentence on SUMS, TEXTS and THE TAPE (promises 13 to 17, and 25's PARTS) that names an edge. */
public final class EdgesOfSumsTest {
    private static final Edges ALL = new Edges("EdgesOfSumsTest");
    private static final int LEAST = Integer.MIN_VALUE, GREATEST = Integer.MAX_VALUE;
    private static final String Q7 = "q*q*q*q*q*q*q";

    public static void main(String[] args) {
        term();
        scaled();
        spent();
        multiply();
        feed();
        ones();
        open();
        faults();
        faultsOfShapes();
        read();
        parts();
        refusals();
        ALL.end();
    }

    private static void term() {
        ALL.edge("13: 0 .. 7 TURNS", (x, c) -> {
            Check.read(x, "5+" + Q7 + "*[22]");
            c.due("term(0, 0)", x.term(0, 0), 5);
            c.due("term(7, 5)", x.term(7, 5), 1);
            c.due("term(7, 0)", x.term(7, 0), 0);
            c.due("term(0, 5)", x.term(0, 5), 0);
        });
        ALL.edge("13: 0 also of others: TURNS", (x, c) -> {
            Check.read(x, "5+" + Q7 + "*[22]");
            for (int d : new int[] {-1, 8, LEAST, GREATEST, 1 << 29}) {
                c.due("term(" + d + ", 0)", x.term(d, 0), 0);
                c.due("term(" + d + ", 5)", x.term(d, 5), 0);
            }
        });
        ALL.edge("13: 0 also of others: SHAPES", (x, c) -> {
            // what stands where a SHAPE too far would be, if there were no bound
            Check.read(x, "5+q*(6+[1]*7)+q*q*9");
            for (int l : new int[] {-1, 6, 34, 35, 36, 70, LEAST, GREATEST}) {
                c.due("term(0, " + l + ")", x.term(0, l), 0);
                c.due("term(1, " + l + ")", x.term(1, l), 0);
            }
        });
        ALL.edge("A COEFFICIENT is -1000000 at least, 1000000 at most", (x, c) -> {
            Check.read(x, "1000*1000-1000*1000*q");
            c.due("term(0, 0)", x.term(0, 0), 1000000);
            c.due("term(1, 0)", x.term(1, 0), -1000000);
        });
    }

    private static void scaled() {
        long no = Long.MIN_VALUE;
        ALL.edge("14: NO: d", (x, c) -> {
            Check.read(x, "5+" + Q7);
            c.due("scaled(0, 0, 2)", x.scaled(0, 0, 2), 10);
            c.due("scaled(7, 0, 2)", x.scaled(7, 0, 2), 2);
            for (int d : new int[] {-1, 8, LEAST, GREATEST}) {
                c.due("scaled(" + d + ", 0, 0)", x.scaled(d, 0, 0), no);
            }
        });
        ALL.edge("14: NO: l", (x, c) -> {
            Check.read(x, "5-[22]");
            c.due("scaled(0, 5, 2)", x.scaled(0, 5, 2), -2);
            for (int l : new int[] {-1, 6, 34, LEAST, GREATEST}) {
                c.due("scaled(0, " + l + ", 0)", x.scaled(0, l, 0), no);
            }
        });
        ALL.edge("14: NO: it is none of ints: above", (x, c) -> {
            Check.read(x, "1000*1000-q");
            c.due("2147 times 1000000", x.scaled(0, 0, 2147), 2147000000L);
            c.due("2148 times 1000000", x.scaled(0, 0, 2148), no);
            c.due("4295 times 1000000: the lowest bits are an int again", x.scaled(0, 0, 4295), no);
            c.due("greatest times 1000000", x.scaled(0, 0, GREATEST), no);
            c.due("least times -1", x.scaled(1, 0, LEAST), no);
        });
        ALL.edge("14: NO: it is none of ints: below", (x, c) -> {
            Check.read(x, "1000*1000-q");
            c.due("-2147 times 1000000", x.scaled(0, 0, -2147), -2147000000L);
            c.due("-2148 times 1000000", x.scaled(0, 0, -2148), no);
            c.due("least times 1000000", x.scaled(0, 0, LEAST), no);
        });
        ALL.edge("14: the greatest int and the least one are ints", (x, c) -> {
            Check.read(x, "1+2*q-[1]");
            c.due("1 times the greatest", x.scaled(0, 0, GREATEST), GREATEST);
            c.due("1 times the least", x.scaled(0, 0, LEAST), LEAST);
            c.due("-1 times the greatest", x.scaled(0, 1, GREATEST), -2147483647L);
            c.due("2 times the half of the least", x.scaled(1, 0, LEAST / 2), LEAST);
            c.due("2 times 1 less than that", x.scaled(1, 0, LEAST / 2 - 1), no);
            c.due("2 times 1073741823", x.scaled(1, 0, 1073741823), 2147483646L);
            c.due("2 times 1073741824", x.scaled(1, 0, 1073741824), no);
        });
        ALL.edge("14: 0 times whatever", (x, c) -> {
            c.due("0 times the least", x.scaled(0, 0, LEAST), 0);
            c.due("0 times the greatest", x.scaled(7, 5, GREATEST), 0);
        });
    }

    private static void reads(Check c, HookBoxes x, String text, int want) {
        c.due("read() of " + text, Check.read(x, text), want);
    }

    private static void spent() {
        ALL.edge("SPENT: of a + beyond", (x, c) -> {
            reads(c, x, "1000*1000+0", 1);
            reads(c, x, "1000*1000+1", -3);
            reads(c, x, "1+1000*1000", -3);
            reads(c, x, "1000*1000*[22]+[22]", -3);
        });
        ALL.edge("SPENT: of a - beyond", (x, c) -> {
            reads(c, x, "0-1000*1000", 1);
            reads(c, x, "0-1000*1000-1", -3);
            reads(c, x, "1000*1000-(0-1)", -3);
            reads(c, x, "0-" + Q7 + "*1000*1000-" + Q7, -3);
        });
        ALL.edge("SPENT: of a * beyond", (x, c) -> {
            reads(c, x, "1000*1000", 1);
            reads(c, x, "9999*100", 1);
            reads(c, x, "9999*101", -3);
            reads(c, x, "(0-1000)*1000", 1);
            reads(c, x, "(0-1001)*1000", -3);
            reads(c, x, "1000*501*[1]*[1]*[1]", -3);
        });
        ALL.edge("SPENT: beyond by 1", (x, c) -> {
            // 101 * 9901 is 1000001
            reads(c, x, "101*9901", -3);
            reads(c, x, "(0-101)*9901", -3);
            reads(c, x, "(1000*500*[2]+(1000*500+1)*[11])*[1]", -3);
            reads(c, x, "1000*500*[2]+(1000*500+1)*[11]", 2);
            c.due("multiply(1)", x.multiply(1), -3);
            c.due("multiply(0)", x.multiply(0), 2);
        });
        ALL.edge("A COEFFICIENT of the last SHAPE of 35, of 7 TURNS", (x, c) -> {
            x.box(4, 7);
            reads(c, x, Q7 + "*[3333]", 1);
            c.due("count(3)", x.count(3), 1);
            c.due("term(7, 34)", x.term(7, 34), 1);
            reads(c, x, "5*" + Q7 + "*[3333]+7*" + Q7 + "*[3333]", 1);
            c.due("term(7, 34)", x.term(7, 34), 12);
            reads(c, x, "[3333]-[3333]", 0);
            c.due("term(7, 34)", x.term(7, 34), 0);
            reads(c, x, "1000*1000*" + Q7 + "*[3333]+" + Q7 + "*[3333]", -3);
        });
        ALL.edge("SUMS multiplied: q on either side, each SHAPE", (x, c) -> {
            int[] rows = {0, 1, 2, 11, 21, 22};
            for (int l = 1; l < 6; l++) {
                reads(c, x, "q*[" + rows[l] + "]", 1);
                c.due("term(1, " + l + ")", x.term(1, l), 1);
                reads(c, x, "[" + rows[l] + "]*q", 1);
                c.due("term(1, " + l + ")", x.term(1, l), 1);
            }
        });
        ALL.edge("SPENT: what comes of a +, -, * is looked at, not what comes at the end", (x, c) -> {
            reads(c, x, "1000*1000+1-1", -3);
            reads(c, x, "0-1000*1000-1+1", -3);
            reads(c, x, "9999*9999*0", -3);
            reads(c, x, "0*(9999*9999)", -3);
            reads(c, x, "(1000*1000+1)*0", -3);
            reads(c, x, "1000*1000-1+1", 1);
        });
        ALL.edge("SPENT: all added up: what is beyond on the way to it does not matter", (x, c) -> {
            // [21] is [2] [1] and [11] [1] less [21]: 1000000 each
            reads(c, x, "1000*1000*([2]+[11]-[21])*([1]+1)", 5);
            c.due("[21]", x.term(0, 4), 1000000);
            reads(c, x, "1000*1000*([2]+[11])*([1]+1)", -3);
            // [22] is [21] [1] and [2] [2] less [22]
            reads(c, x, "1000*1000*([21]+[2]+1)*([1]+[2]-[22])", 8);
            c.due("[22]", x.term(0, 5), 1000000);
            reads(c, x, "([1]+[2]-[22])*(1000*1000*([21]+[2]+1))", 8);
            c.due("[22]", x.term(0, 5), 1000000);
            reads(c, x, "1000*1000*([21]+[2]+1)*([1]+[2])", -3);
        });
        ALL.edge("SPENT: far beyond, where the lowest bits are 0", (x, c) -> {
            reads(c, x, "1024*64*(1024*64)", -3);
            reads(c, x, "1000*1000*(1000*1000)", -3);
            reads(c, x, "(0-1000*1000)*(1000*1000)", -3);
        });
        ALL.edge("SPENT: one of more than 7 TURNS would not be 0", (x, c) -> {
            reads(c, x, Q7, 1);
            reads(c, x, Q7 + "*q", -3);
            reads(c, x, Q7 + "*[22]*[1]", -3);
            reads(c, x, Q7 + "*[21]*[1]", -3);
            reads(c, x, "(" + Q7 + ")*(" + Q7 + ")", -3);
            reads(c, x, Q7 + "*(q-1)", -3);
        });
        ALL.edge("SPENT: more than 7 TURNS, (all added up) 0", (x, c) -> {
            // [2] [21] and [11] [21] are both [1], round once
            reads(c, x, Q7 + "*([2]-[11])*[21]", 0);
            reads(c, x, Q7 + "*0*q", 0);
            reads(c, x, "0*(" + Q7 + ")*(" + Q7 + ")", 0);
            reads(c, x, "(" + Q7 + "-" + Q7 + ")*q", 0);
        });
        ALL.edge("SPENT: the most TURNS that may come", (x, c) -> {
            int last = x.box(3, 6) - 1;
            reads(c, x, Q7 + "*[333]", 1);
            c.due("multiply([333])", x.multiply(last), -3);
            reads(c, x, Q7 + "*[333]*(" + Q7 + "*[333])", -3);
            x.box(4, 7);
            reads(c, x, Q7 + "*[3333]*(" + Q7 + "*[3333])", -3);
            reads(c, x, "q*q*q*q*[3333]*[3333]", 1);
        });
    }

    private static void multiply() {
        ALL.edge("15: THE SUM of nothing stays nothing", (x, c) -> {
            for (int l = 0; l < 6; l++) {
                c.due("multiply(" + l + ")", x.multiply(l), 0);
            }
        });
        ALL.edge("15: BAD", (x, c) -> {
            Check.read(x, "3");
            for (int bad : new int[] {-1, 6, 34, LEAST, GREATEST, 1 << 30}) {
                c.due("multiply(" + bad + ")", x.multiply(bad), -2);
            }
            c.due("multiply(5)", x.multiply(5), 1);
            c.due("term(0, 5)", x.term(0, 5), 3);
        });
        ALL.edge("15: STATE: it is SPENT (THE SUM stays): a COEFFICIENT beyond", (x, c) -> {
            Check.read(x, "1000*600*([2]+[11])-q");
            String state = Edges.state(x);
            c.due("multiply(1)", x.multiply(1), -3);
            c.holds("all is as it was", Edges.state(x).equals(state));
            Check.read(x, "1000*500*([2]+[11])");
            c.due("multiply(1)", x.multiply(1), 1);
            c.due("term(0, 4)", x.term(0, 4), 1000000);
        });
        ALL.edge("15: STATE: it is SPENT (THE SUM stays): more than 7 TURNS", (x, c) -> {
            Check.read(x, Q7 + "*[22]+5");
            String state = Edges.state(x);
            c.due("multiply(1)", x.multiply(1), -3);
            c.holds("all is as it was", Edges.state(x).equals(state));
            Check.read(x, "q*q*q*q*q*q*[22]");
            c.due("multiply(1)", x.multiply(1), 1);
            c.due("term(7, 1)", x.term(7, 1), 1);
        });
        ALL.edge("15: more than 7 TURNS, all added up 0", (x, c) -> {
            Check.read(x, Q7 + "*([2]-[11])");
            c.due("multiply(4)", x.multiply(4), 0);
            c.due("count(3)", x.count(3), 0);
        });
        ALL.edge("15: by this SHAPE alone, not by those that were", (x, c) -> {
            Check.read(x, "1");
            c.due("multiply(2)", x.multiply(2), 1);
            c.due("multiply(3)", x.multiply(3), 1);
            c.due("term(1, 0)", x.term(1, 0), 1);
            Check.read(x, "1");
            x.multiply(6);
            c.due("multiply(4)", x.multiply(4), 1);
            c.due("term(0, 4)", x.term(0, 4), 1);
        });
        ALL.edge("15: how many COEFFICIENTS aren't 0", (x, c) -> {
            Check.read(x, "[21]");
            c.due("multiply(1)", x.multiply(1), 2);
            c.due("term(0, 5)", x.term(0, 5), 1);
            c.due("term(1, 0)", x.term(1, 0), 1);
            Check.read(x, "[2]-[11]");
            c.due("multiply(1): they are taken away", x.multiply(1), 0);
        });
    }

    private static void full(HookBoxes x, int bytes) {
        for (int k = 0; k < bytes; k++) {
            x.feed(1, '1', 0, 0, 0, 0);
        }
    }

    private static void feed() {
        ALL.edge("16: n bytes (1 .. 5)", (x, c) -> {
            int all = 0;
            for (int n = 1; n <= 5; n++) {
                all += n;
                c.due("feed(" + n + ")", x.feed(n, '1', '+', '1', '+', '1'), all);
            }
            for (int bad : new int[] {0, 6, -1, LEAST, GREATEST}) {
                c.due("feed(" + bad + ")", x.feed(bad, '1', '1', '1', '1', '1'), -2);
            }
            c.due("count(4)", x.count(4), all);
        });
        ALL.edge("16: all 0 .. 255", (x, c) -> {
            c.due("feed of 0, 255", x.feed(5, 0, 255, 0, 255, 0), 5);
            for (int place = 0; place < 5; place++) {
                for (int bad : new int[] {-1, 256, LEAST, GREATEST}) {
                    int[] b = {'1', '1', '1', '1', '1'};
                    b[place] = bad;
                    c.due("feed of 5 with " + bad, x.feed(5, b[0], b[1], b[2], b[3], b[4]), -2);
                }
            }
            c.due("count(4)", x.count(4), 5);
        });
        ALL.edge("16: also those that are not asked", (x, c) -> {
            for (int place = 1; place < 5; place++) {
                for (int bad : new int[] {-1, 256}) {
                    int[] b = {'1', '1', '1', '1', '1'};
                    b[place] = bad;
                    c.due("feed of 1 with " + bad, x.feed(1, b[0], b[1], b[2], b[3], b[4]), -2);
                }
            }
            c.due("feed of 1", x.feed(1, '1', 255, 0, 255, 0), 1);
        });
        ALL.edge("16: come behind THE TAPE, in their order", (x, c) -> {
            x.feed(5, '1', '2', '+', '3', '4');
            x.feed(2, '5', '0', '9', '9', '9');
            c.due("read()", x.read(), 1);
            c.due("term(0, 0)", x.term(0, 0), 3462);
        });
        ALL.edge("16: THE TAPE (60 bytes at most)", (x, c) -> {
            full(x, 59);
            c.due("count(4)", x.count(4), 59);
            c.due("feed of 1", x.feed(1, '1', 0, 0, 0, 0), 60);
            c.due("feed of 1 more", x.feed(1, '1', 0, 0, 0, 0), -4);
            c.due("count(4)", x.count(4), 60);
        });
        ALL.edge("16: FULL: not all of the n have room (none comes)", (x, c) -> {
            full(x, 56);
            c.due("feed of 5", x.feed(5, '2', '2', '2', '2', '2'), -4);
            c.due("count(4)", x.count(4), 56);
            c.due("feed of 4", x.feed(4, '2', '2', '2', '2', '2'), 60);
        });
        ALL.edge("16: five at a time just fill it", (x, c) -> {
            for (int k = 1; k <= 12; k++) {
                c.due("feed of 5", x.feed(5, '1', '1', '1', '1', '1'), 5 * k);
            }
            for (int n = 1; n <= 5; n++) {
                c.due("feed of " + n, x.feed(n, '1', '1', '1', '1', '1'), -4);
            }
        });
        ALL.edge("16: BAD ahead of FULL", (x, c) -> {
            full(x, 60);
            c.due("feed of 6", x.feed(6, '1', '1', '1', '1', '1'), -2);
            c.due("feed of 256", x.feed(5, '1', '1', '1', '1', 256), -2);
            c.due("feed of 5", x.feed(5, '1', '1', '1', '1', '1'), -4);
        });
        ALL.edge("16: there is room again behind read()", (x, c) -> {
            full(x, 60);
            x.read();
            c.due("feed of 5", x.feed(5, '1', '1', '1', '1', '1'), 5);
        });
        ALL.edge("17: a TEXT of 60 bytes", (x, c) -> {
            StringBuilder s = new StringBuilder("1");
            for (int n = 0; n < 28; n++) {
                s.append("+1");
            }
            reads(c, x, s + "+11", 1);
            c.due("term(0, 0)", x.term(0, 0), 40);
            c.due("count(5)", x.count(5), 59);
            reads(c, x, s + "+1+", -160);
            reads(c, x, s + "+1x", -159);
        });
    }

    private static void ones() {
        ALL.edge("ONE: a number of 1 .. 4 digits", (x, c) -> {
            reads(c, x, "7", 1);
            reads(c, x, "9999", 1);
            c.due("term(0, 0)", x.term(0, 0), 9999);
            reads(c, x, "12345", -104);
            reads(c, x, "1+99999", -106);
        });
        ALL.edge("ONE: (0 ahead, too)", (x, c) -> {
            reads(c, x, "0", 0);
            reads(c, x, "0000", 0);
            reads(c, x, "0012", 1);
            c.due("term(0, 0)", x.term(0, 0), 12);
            reads(c, x, "00012", -104);
        });
        ALL.edge("ONE: q (EMPTY with 1 TURN)", (x, c) -> {
            reads(c, x, "q", 1);
            c.due("term(1, 0)", x.term(1, 0), 1);
            c.due("term(0, 0)", x.term(0, 0), 0);
        });
        ALL.edge("ONE: [] is EMPTY", (x, c) -> {
            reads(c, x, "[]", 1);
            c.due("term(0, 0)", x.term(0, 0), 1);
        });
        ALL.edge("ONE: 4 digits at most", (x, c) -> {
            x.box(4, 5);
            reads(c, x, "[1111]", 1);
            c.due("term(0, 4)", x.term(0, 4), 1);
            reads(c, x, "[11111]", -105);
        });
        ALL.edge("TEXT: no blanks", (x, c) -> {
            reads(c, x, " 1", -100);
            reads(c, x, "1 ", -101);
            reads(c, x, "1 +1", -101);
            reads(c, x, "1+ 1", -102);
            reads(c, x, "[ 1]", -101);
            reads(c, x, "( 1)", -101);
        });
        ALL.edge("TEXT: bytes 0 and 255 are none of it", (x, c) -> {
            reads(c, x, "\u0000", -100);
            reads(c, x, "1\u0000", -101);
            reads(c, x, "1+\u00ff", -102);
            reads(c, x, "/", -100);
            reads(c, x, ":", -100);
        });
        ALL.edge("SUM: from the left on", (x, c) -> {
            reads(c, x, "9-5-3", 1);
            c.due("term(0, 0)", x.term(0, 0), 1);
            reads(c, x, "9-5+3", 1);
            c.due("term(0, 0)", x.term(0, 0), 7);
        });
        ALL.edge("SUM: a + or a - alone, at the beginning, at the end, twice", (x, c) -> {
            reads(c, x, "-1", -100);
            reads(c, x, "+1", -100);
            reads(c, x, "*1", -100);
            reads(c, x, "1+", -102);
            reads(c, x, "1-", -102);
            reads(c, x, "1*", -102);
            reads(c, x, "1++1", -102);
            reads(c, x, "1*-1", -102);
        });
    }

    private static void open() {
        ALL.edge("4 ( are open at once at most", (x, c) -> {
            reads(c, x, "((((7))))", 1);
            c.due("term(0, 0)", x.term(0, 0), 7);
            reads(c, x, "((((7))))+((((7))))*((((1))))", 1);
            c.due("term(0, 0)", x.term(0, 0), 14);
            reads(c, x, "(((((7)))))", -104);
        });
        ALL.edge("FAULT: of a fifth ( its own", (x, c) -> {
            reads(c, x, "(((((", -104);
            reads(c, x, "((((1+(", -106);
            reads(c, x, "((((1))))+((((1*(2", -116);
            reads(c, x, "((((1)+((1", -108);
        });
        ALL.edge("a ) sets one free again", (x, c) -> {
            reads(c, x, "(((((1", -104);
            reads(c, x, "((((1)+(1))))", 1);
            reads(c, x, "(((1)+((1))))", 1);
            c.due("term(0, 0)", x.term(0, 0), 2);
        });
        ALL.edge("a ) with none open, a ( that is not closed, an empty one", (x, c) -> {
            reads(c, x, ")", -100);
            reads(c, x, "1)", -101);
            reads(c, x, "(1))", -103);
            reads(c, x, "(1", -102);
            reads(c, x, "((1)", -104);
            reads(c, x, "()", -101);
            reads(c, x, "(1]", -102);
        });
    }

    private static void faults() {
        ALL.edge("FAULT: the tape's size, if it ends too early", (x, c) -> {
            reads(c, x, "", -100);
            reads(c, x, "(", -101);
            reads(c, x, "[", -101);
            reads(c, x, "[2", -102);
            reads(c, x, "[21", -103);
            reads(c, x, "2*(1+", -105);
        });
        ALL.edge("FAULT: the place of the first byte with which no TEXT goes on", (x, c) -> {
            reads(c, x, "qq", -101);
            reads(c, x, "1q", -101);
            reads(c, x, "q1", -101);
            reads(c, x, "(1)(1)", -103);
            reads(c, x, "[1][1]", -103);
            reads(c, x, "1x+x", -101);
            reads(c, x, "1+2x)", -103);
        });
        ALL.edge("FAULT: the first one, also where others come behind", (x, c) -> {
            reads(c, x, "1+x+[99]+(((((", -102);
            reads(c, x, "[99]+x", -100);
            reads(c, x, "((((([99]", -104);
        });
        ALL.edge("FAULT: at the last byte, of 60", (x, c) -> {
            StringBuilder s = new StringBuilder("q");
            while (s.length() < 59) {
                s.append(s.length() % 2 == 0 ? 'q' : '*');
            }
            reads(c, x, s + "x", -159);
        });
        ALL.edge("FAULT: ahead of SPENT", (x, c) -> {
            reads(c, x, "9999*9999+", -110);
            reads(c, x, "9999*9999x", -109);
            reads(c, x, Q7 + "*q*[12]", -116);
        });
    }

    private static void faultsOfShapes() {
        ALL.edge("FAULT: of [ digits ] that tell no SHAPE of THE BOX its [: longer than WIDTH", (x, c) -> {
            reads(c, x, "[3]", -100);
            reads(c, x, "1+[31]", -102);
            x.box(1, 7);
            reads(c, x, "[6]", 1);
            reads(c, x, "[7]", -100);
        });
        ALL.edge("FAULT: its [: more digits than ROWS", (x, c) -> {
            reads(c, x, "[22]", 1);
            reads(c, x, "[111]", -100);
            reads(c, x, "2*[1111]", -102);
            x.box(1, 7);
            reads(c, x, "[11]", -100);
        });
        ALL.edge("FAULT: its [: a row greater than that ahead", (x, c) -> {
            reads(c, x, "[12]", -100);
            x.box(4, 7);
            reads(c, x, "[1112]", -100);
            reads(c, x, "q*[3323]", -102);
        });
        ALL.edge("FAULT: its [: (a 0 among them, too)", (x, c) -> {
            reads(c, x, "[0]", -100);
            reads(c, x, "[20]", -100);
            reads(c, x, "[02]", -100);
            reads(c, x, "[00]", -100);
            x.box(4, 7);
            reads(c, x, "[0321]", -100);
            reads(c, x, "[3210]", -100);
            reads(c, x, "[3021]", -100);
            reads(c, x, "[0000]", -100);
        });
        ALL.edge("FAULT: its [ (also where nothing right comes behind, as no ])", (x, c) -> {
            reads(c, x, "[12", -100);
            reads(c, x, "[12x", -100);
            reads(c, x, "1+[3", -102);
            reads(c, x, "[0", -100);
            reads(c, x, "[20)", -100);
        });
        ALL.edge("FAULT: its [ (also where nothing right comes behind, as a fifth digit)", (x, c) -> {
            reads(c, x, "[11111]", -100);
            reads(c, x, "[22222", -100);
            reads(c, x, "1-[00000]", -102);
        });
        ALL.edge("FAULT: of digits that tell a SHAPE the first byte with which no TEXT goes on", (x, c) -> {
            reads(c, x, "[1x]", -102);
            reads(c, x, "[x]", -101);
            reads(c, x, "[21)", -103);
            x.box(4, 7);
            reads(c, x, "[32111]", -105);
            reads(c, x, "[3211x", -105);
        });
        ALL.edge("SHAPE of THE BOX that is there now", (x, c) -> {
            x.box(4, 7);
            reads(c, x, "[321]", 1);
            Check.feed(x, "[321]");
            x.box(2, 4);
            c.due("read()", x.read(), -100);
        });
    }

    private static void read() {
        ALL.edge("17: THE TAPE, which is empty then", (x, c) -> {
            reads(c, x, "12", 1);
            c.due("count(4)", x.count(4), 0);
            c.due("read() again", x.read(), -100);
        });
        ALL.edge("17: (by a FAULT, too)", (x, c) -> {
            reads(c, x, "1x2", -101);
            c.due("count(4)", x.count(4), 0);
            reads(c, x, "5", 1);
        });
        ALL.edge("17: (by SPENT, too)", (x, c) -> {
            reads(c, x, "9999*9999", -3);
            c.due("count(4)", x.count(4), 0);
            reads(c, x, "5", 1);
        });
        ALL.edge("17: by a FAULT THE SUM stays", (x, c) -> {
            Check.read(x, "3+q*[21]");
            String state = Edges.state(x);
            for (String text : new String[] {"", "5+", "[3]", "(((((", "7)"}) {
                Check.read(x, text);
                c.holds("all is as it was behind " + text, Edges.state(x).equals(state));
            }
        });
        ALL.edge("17: by SPENT THE SUM stays", (x, c) -> {
            Check.read(x, "3+q*[21]");
            for (String text : new String[] {"9999*9999", "1000*1000+1", Q7 + "*q"}) {
                reads(c, x, text, -3);
                c.due("count(3) behind " + text, x.count(3), 2);
                c.due("term(0, 0) behind " + text, x.term(0, 0), 3);
                c.due("term(1, 4) behind " + text, x.term(1, 4), 1);
            }
        });
        ALL.edge("17: that becomes THE SUM: nothing of the one that was stays", (x, c) -> {
            Check.read(x, "3+q*[21]");
            reads(c, x, "[1]", 1);
            c.due("term(0, 0)", x.term(0, 0), 0);
            c.due("term(0, 1)", x.term(0, 1), 1);
            reads(c, x, "1-1", 0);
            c.due("count(3)", x.count(3), 0);
        });
    }

    private static void parts(Check c, HookBoxes x, String text, int want) {
        Check.read(x, text);
        c.due("PARTS of " + text, x.count(5), want);
    }

    private static void parts() {
        ALL.edge("PARTS: 0: there was none", (x, c) -> {
            c.due("count(5)", x.count(5), 0);
            parts(c, x, "", 0);
            parts(c, x, "1+", 0);
        });
        ALL.edge("PARTS: a ONE but ( SUM ) is 1", (x, c) -> {
            parts(c, x, "0", 1);
            parts(c, x, "1234", 1);
            parts(c, x, "q", 1);
            parts(c, x, "[]", 1);
            parts(c, x, "[21]", 1);
            parts(c, x, "((((1))))", 1);
            parts(c, x, "(1+2)", 3);
        });
        ALL.edge("PARTS: a + or - 1 more than both together", (x, c) -> {
            parts(c, x, "1+2", 3);
            parts(c, x, "1-2", 3);
            parts(c, x, "1-2+3", 5);
            parts(c, x, "1-(2+3)", 5);
        });
        ALL.edge("PARTS: a * 1 more than the greater one of its two sides", (x, c) -> {
            parts(c, x, "1*2", 2);
            parts(c, x, "(1+2)*3", 4);
            parts(c, x, "3*(1+2)", 4);
            parts(c, x, "(1+2)*(3+4)", 4);
        });
        ALL.edge("PARTS: (from the left on)", (x, c) -> {
            parts(c, x, "1*2*3*4", 4);
            parts(c, x, "1*2*(3*4)", 3);
            parts(c, x, "1*(2*(3*4))", 4);
            parts(c, x, "1*2*(3+4)*5", 5);
        });
        ALL.edge("PARTS: of the latest TEXT that had no FAULT", (x, c) -> {
            parts(c, x, "1+2", 3);
            parts(c, x, "1*2*3*4*5*", 3);
            parts(c, x, "[12]", 3);
            parts(c, x, "q", 1);
        });
        ALL.edge("PARTS: (also one that was SPENT)", (x, c) -> {
            parts(c, x, "1+2", 3);
            parts(c, x, "9999*9999", 2);
            parts(c, x, "9999*9999*1*2+(3+4)", 4 + 3 + 1);
        });
        ALL.edge("PARTS: the most that 60 bytes have", (x, c) -> {
            StringBuilder s = new StringBuilder("1");
            while (s.length() < 58) {
                s.append("+1");
            }
            parts(c, x, s.toString(), 59);
        });
    }

    private static void refusals() {
        ALL.edge("Refusals change nothing (term, scaled, multiply, feed)", (x, c) -> {
            Check.read(x, "3+q*[21]-[1]");
            Check.feed(x, "12");
            x.sheet(1, 0, 3);
            String state = Edges.state(x);
            x.term(8, 0);
            x.scaled(8, 0, 1);
            x.scaled(0, 0, GREATEST);
            x.multiply(6);
            x.feed(0, 1, 1, 1, 1, 1);
            x.feed(1, 256, 1, 1, 1, 1);
            c.holds("all is as it was", Edges.state(x).equals(state));
        });
        ALL.edge("What is asked changes nothing (term, scaled)", (x, c) -> {
            Check.read(x, "3+q*[21]-[1]");
            String state = Edges.state(x);
            for (int l = 0; l < 6; l++) {
                x.term(1, l);
                x.scaled(1, l, 5);
            }
            c.holds("all is as it was", Edges.state(x).equals(state));
        });
    }
}
