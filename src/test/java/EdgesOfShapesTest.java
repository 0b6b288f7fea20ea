/** A test for each sentence on THE BOX and its SHAPES (promises 1 to 6) that names an edge. */
public final class EdgesOfShapesTest {
    private static final Edges ALL = new Edges("EdgesOfShapesTest");
    private static final int LEAST = Integer.MIN_VALUE, GREATEST = Integer.MAX_VALUE;

    public static void main(String[] args) {
        theBox();
        shapes();
        kinds();
        duals();
        rolled();
        words();
        numbers();
        refusals();
        ALL.end();
    }

    private static void theBox() {
        ALL.edge("1: THE BOX of 2 ROWS, ROUND 4", (x, c) -> {
            c.due("count(0)", x.count(0), 6);
            c.due("count(1)", x.count(1), 2);
            c.due("count(2)", x.count(2), 4);
        });
        ALL.edge("1: THE SUM in hand: all 0 at first", (x, c) -> {
            c.due("count(3)", x.count(3), 0);
            for (int d = 0; d < 8; d++) {
                for (int l = 0; l < 6; l++) {
                    c.due("term(" + d + ", " + l + ")", x.term(d, l), 0);
                }
            }
        });
        ALL.edge("1: THE TAPE is empty at first, no TEXT was read", (x, c) -> {
            c.due("count(4)", x.count(4), 0);
            c.due("count(5)", x.count(5), 0);
            c.due("read()", x.read(), -100);
        });
        ALL.edge("1: SHEETS are missing as all are at first", (x, c) -> {
            for (int s = 0; s < 4; s++) {
                c.due("put(" + s + ", 0, 1)", x.put(s, 0, 1), -11);
            }
        });
        ALL.edge("1: no IMAGE at first", (x, c) -> c.due("back()", x.back(), -3));
        ALL.edge("2: ROWS 1 at least", (x, c) -> {
            c.due("box(1, 2)", x.box(1, 2), 2);
            c.due("box(1, 7)", x.box(1, 7), 7);
            c.due("box(0, 4)", x.box(0, 4), -2);
            c.due("box(0, 1)", x.box(0, 1), -2);
            c.due("box(-1, 4)", x.box(-1, 4), -2);
            c.due("box(least, 4)", x.box(LEAST, 4), -2);
        });
        ALL.edge("2: ROWS 4 at most", (x, c) -> {
            c.due("box(4, 5)", x.box(4, 5), 5);
            c.due("box(4, 7)", x.box(4, 7), 35);
            c.due("box(5, 6)", x.box(5, 6), -2);
            c.due("box(5, 7)", x.box(5, 7), -2);
            c.due("box(6, 7)", x.box(6, 7), -2);
        });
        ALL.edge("2: ROUND 1 more than ROWS at least", (x, c) -> {
            for (int rows = 1; rows <= 4; rows++) {
                c.due("box(" + rows + ", " + (rows + 1) + ")", x.box(rows, rows + 1), rows + 1);
                c.due("box(" + rows + ", " + rows + ")", x.box(rows, rows), -2);
                c.due("box(" + rows + ", " + (rows - 1) + ")", x.box(rows, rows - 1), -2);
                c.due("box(" + rows + ", 0)", x.box(rows, 0), -2);
                c.due("box(" + rows + ", least)", x.box(rows, LEAST), -2);
            }
        });
        ALL.edge("2: ROUND 7 at most", (x, c) -> {
            int[] many = {7, 21, 35, 35};
            for (int rows = 1; rows <= 4; rows++) {
                c.due("box(" + rows + ", 7)", x.box(rows, 7), many[rows - 1]);
                c.due("box(" + rows + ", 8)", x.box(rows, 8), -2);
                c.due("box(" + rows + ", greatest)", x.box(rows, GREATEST), -2);
            }
        });
        ALL.edge("2: ROWS so great that 1 more wraps round are BAD", (x, c) -> {
            c.due("box(greatest, 4)", x.box(GREATEST, 4), -2);
            c.due("box(greatest, least)", x.box(GREATEST, LEAST), -2);
        });
        ALL.edge("2: another one: THE SUM is all 0", (x, c) -> {
            Check.read(x, "3+q*q*q*q*q*q*q*[22]");
            x.box(4, 7);
            c.due("count(3)", x.count(3), 0);
            x.box(2, 4);
            c.due("count(3)", x.count(3), 0);
            c.due("term(0, 0)", x.term(0, 0), 0);
            c.due("term(7, 5)", x.term(7, 5), 0);
        });
        ALL.edge("2: (or the same): THE SUM is all 0", (x, c) -> {
            Check.read(x, "3+q*q*q*q*q*q*q*[22]");
            c.due("box(2, 4)", x.box(2, 4), 6);
            c.due("count(3)", x.count(3), 0);
            c.due("term(0, 0)", x.term(0, 0), 0);
        });
        ALL.edge("2: THE SUM is all 0 in each box, least and greatest, another one or the same", (x, c) -> {
            for (int rows = 1; rows <= 4; rows++) {
                for (int round = rows + 1; round <= 7; round++) {
                    Check.read(x, "3+q*[1]");
                    x.box(rows, round);
                    c.due("another one: count(3)", x.count(3), 0);
                    Check.read(x, "3+q*[1]");
                    c.due("count(3) of a TEXT there", x.count(3), 2);
                    x.box(rows, round);
                    c.due("the same: count(3)", x.count(3), 0);
                }
            }
        });
        ALL.edge("2: BAD changes nothing", (x, c) -> {
            Check.read(x, "3+q*[21]");
            String state = Edges.state(x);
            x.box(0, 4);
            x.box(2, 2);
            x.box(2, 8);
            x.box(5, 7);
            c.holds("all is as it was", Edges.state(x).equals(state));
        });
        ALL.edge("2: THE TAPE, the SHEETS, the IMAGE, the PARTS stay", (x, c) -> {
            Check.read(x, "1+2");
            x.image();
            Check.feed(x, "q");
            x.sheet(3, 1, 5);
            x.box(3, 5);
            c.due("count(4)", x.count(4), 1);
            c.due("count(5)", x.count(5), 3);
            c.holds("sheet 3", Edges.form(x, 3).equals("ints5"));
            c.due("back()", x.back(), 6);
            c.due("term(0, 0)", x.term(0, 0), 3);
        });
    }

    private static String rowsOf(HookBoxes x, int i) {
        StringBuilder s = new StringBuilder();
        for (int r = 0; r < x.count(1); r++) {
            s.append(x.row(i, r));
        }
        return s.toString();
    }

    private static void shapes() {
        ALL.edge("3: the first SHAPE is EMPTY, the last one has WIDTH in each row", (x, c) -> {
            for (int rows = 1; rows <= 4; rows++) {
                for (int round = rows + 1; round <= 7; round++) {
                    int last = x.box(rows, round) - 1;
                    for (int r = 0; r < rows; r++) {
                        c.due("row(0, " + r + ")", x.row(0, r), 0);
                        c.due("row(last, " + r + ")", x.row(last, r), round - rows);
                    }
                }
            }
        });
        ALL.edge("3: no LENGTH is greater than that of the row ahead, or than WIDTH", (x, c) -> {
            x.box(4, 7);
            for (int i = 0; i < 35; i++) {
                int ahead = 3;
                for (int r = 0; r < 4; r++) {
                    c.holds("row(" + i + ", " + r + ")", x.row(i, r) <= ahead && x.row(i, r) >= 0);
                    ahead = x.row(i, r);
                }
            }
        });
        ALL.edge("3: numbered from 0: those of less SIZE first", (x, c) -> {
            x.box(3, 7);
            for (int i = 1; i < 35; i++) {
                c.holds("sizes of " + (i - 1) + ", " + i, x.of(i - 1, 0) <= x.of(i, 0));
            }
        });
        ALL.edge("3: of one SIZE the one whose first row that is unlike is longer", (x, c) -> {
            x.box(4, 7);
            // SIZE 6 of 4 rows, 3 at most
            String[] want = {"3300", "3210", "3111", "2220", "2211"};
            int first = x.number(33);
            for (int k = 0; k < want.length; k++) {
                c.holds(want[k], rowsOf(x, first + k).equals(want[k]));
            }
        });
        ALL.edge("3: a box of WIDTH 1", (x, c) -> {
            x.box(4, 5);
            String[] want = {"0000", "1000", "1100", "1110", "1111"};
            for (int i = 0; i < 5; i++) {
                c.holds(want[i], rowsOf(x, i).equals(want[i]));
            }
        });
        ALL.edge("3: a box of one row", (x, c) -> {
            x.box(1, 7);
            for (int i = 0; i < 7; i++) {
                c.due("row(" + i + ", 0)", x.row(i, 0), i);
            }
            c.due("row(6, 1)", x.row(6, 1), -2);
        });
        ALL.edge("3: row r is 0 .. ROWS less 1", (x, c) -> {
            for (int rows = 1; rows <= 4; rows++) {
                x.box(rows, 7);
                c.due("the last row of the first SHAPE", x.row(0, rows - 1), 0);
                c.due("row(0, ROWS)", x.row(0, rows), -2);
                c.due("row(0, -1)", x.row(0, -1), -2);
                c.due("row(0, greatest)", x.row(0, GREATEST), -2);
                c.due("row(0, least)", x.row(0, LEAST), -2);
            }
        });
        ALL.edge("3: BAD: i", (x, c) -> {
            c.due("row(5, 0)", x.row(5, 0), 2);
            c.due("row(6, 0)", x.row(6, 0), -2);
            c.due("row(-1, 0)", x.row(-1, 0), -2);
            c.due("row(-1, 4)", x.row(-1, 4), -2);
            c.due("row(least, 0)", x.row(LEAST, 0), -2);
            c.due("row(greatest, 0)", x.row(GREATEST, 0), -2);
            c.due("row(1 << 30, 0): 4 times it wraps round to 0", x.row(1 << 30, 0), -2);
        });
        ALL.edge("3: SHAPES of a greater box that was are none", (x, c) -> {
            x.box(4, 7);
            x.box(1, 2);
            c.due("row(1, 0)", x.row(1, 0), 1);
            c.due("row(2, 0)", x.row(2, 0), -2);
            c.due("row(34, 0)", x.row(34, 0), -2);
        });
    }

    private static void kind(Check c, HookBoxes x, int digits, int want) {
        c.due("KIND of [" + digits + "]", x.of(x.number(digits), 2), want);
    }

    private static void kinds() {
        ALL.edge("5: 0 EMPTY: SIZE 0", (x, c) -> kind(c, x, 0, 0));
        ALL.edge("5: 1 ROW: just one row isn't empty", (x, c) -> {
            x.box(3, 7);
            kind(c, x, 2, 1);
            kind(c, x, 4, 1);
        });
        ALL.edge("5: the first that fits: [1] is ROW, no COLUMN, no BLOCK", (x, c) -> {
            for (int rows = 1; rows <= 4; rows++) {
                x.box(rows, 7);
                kind(c, x, 1, 1);
            }
        });
        ALL.edge("5: 2 COLUMN: no row is longer than 1", (x, c) -> {
            x.box(4, 7);
            kind(c, x, 11, 2);
            kind(c, x, 111, 2);
            kind(c, x, 1111, 2);
            kind(c, x, 211, 4);
        });
        ALL.edge("5: 3 BLOCK: all rows that aren't empty are alike", (x, c) -> {
            x.box(4, 7);
            kind(c, x, 22, 3);
            kind(c, x, 222, 3);
            kind(c, x, 2222, 3);
            kind(c, x, 33, 3);
            kind(c, x, 3333, 3);
            kind(c, x, 3332, 5);
            kind(c, x, 322, 5);
        });
        ALL.edge("5: 4 HOOK: its second row has 1", (x, c) -> {
            x.box(4, 7);
            kind(c, x, 21, 4);
            kind(c, x, 31, 4);
            kind(c, x, 2111, 4);
            kind(c, x, 3111, 4);
            kind(c, x, 32, 5);
            kind(c, x, 221, 5);
        });
        ALL.edge("5: 5 OTHER", (x, c) -> {
            x.box(4, 7);
            kind(c, x, 2211, 5);
            kind(c, x, 3211, 5);
            kind(c, x, 3321, 5);
        });
        ALL.edge("6: a KIND that no SHAPE has", (x, c) -> {
            x.box(1, 2);
            int[] want = {1, 1, 0, 0, 0, 0};
            for (int kind = 0; kind < 6; kind++) {
                c.due("kinds(" + kind + ")", x.kinds(kind), want[kind]);
            }
        });
        ALL.edge("6: KINDS 0 .. 5, all SHAPES together", (x, c) -> {
            x.box(4, 7);
            // columns 11 111 1111; blocks 22 222 2222 33 333 3333; hooks 21 211 2111 31 311 3111
            int[] want = {1, 3, 3, 6, 6, 16};
            for (int kind = 0; kind < 6; kind++) {
                c.due("kinds(" + kind + ")", x.kinds(kind), want[kind]);
            }
        });
        ALL.edge("6: BAD", (x, c) -> {
            c.due("kinds(-1)", x.kinds(-1), -2);
            c.due("kinds(6)", x.kinds(6), -2);
            c.due("kinds(least)", x.kinds(LEAST), -2);
            c.due("kinds(greatest)", x.kinds(GREATEST), -2);
        });
    }

    private static void duals() {
        ALL.edge("5: DUAL of EMPTY is the greatest SHAPE, and back", (x, c) -> {
            for (int rows = 1; rows <= 4; rows++) {
                int last = x.box(rows, 7) - 1;
                c.due("of(0, 4)", x.of(0, 4), last);
                c.due("of(last, 4)", x.of(last, 4), 0);
            }
        });
        ALL.edge("5: DUAL: WIDTH less LENGTH of the row as far from the end", (x, c) -> {
            x.box(3, 7);
            c.due("of [310]: [431]", x.of(x.number(31), 4), x.number(431));
            c.due("of [4]: [44]", x.of(x.number(4), 4), x.number(44));
            c.due("of [111]: [333]", x.of(x.number(111), 4), x.number(333));
        });
    }

    private static void rolled() {
        ALL.edge("5: ROLLED: each BEAD is 1 more", (x, c) -> {
            x.box(3, 7);
            // beads 4 2 0 become 5 3 1
            c.due("of [21]", x.of(x.number(21), 5), x.number(321));
        });
        ALL.edge("5: ROLLED: ROUND becoming 0", (x, c) -> {
            x.box(3, 7);
            // beads 6 2 0 become 0 3 1
            c.due("of [41]", x.of(x.number(41), 5), x.number(1));
            // beads 6 5 4 become 0 6 5
            c.due("of [444]", x.of(x.number(444), 5), x.number(44));
            x.box(1, 7);
            c.due("of [6]", x.of(6, 5), 0);
            c.due("of [5]", x.of(5, 5), 6);
        });
        ALL.edge("5: ROLLED so often as ROUND comes back", (x, c) -> {
            for (int rows = 1; rows <= 4; rows++) {
                x.box(rows, 7);
                int i = 1;
                for (int k = 0; k < 7; k++) {
                    i = x.of(i, 5);
                    c.holds("back at the last time alone", (i == 1) == (k == 6));
                }
            }
        });
    }

    private static void words() {
        ALL.edge("5: WORD: bit b is 1 for each BEAD b", (x, c) -> {
            for (int rows = 1; rows <= 4; rows++) {
                for (int round = rows + 1; round <= 7; round++) {
                    int last = x.box(rows, round) - 1;
                    int low = (1 << rows) - 1;
                    c.due("of(0, 3)", x.of(0, 3), low);
                    c.due("of(last, 3)", x.of(last, 3), low << (round - rows));
                }
            }
        });
        ALL.edge("5: TURNED WORD: bit b is 1 just if bit (ROUND less 1 less b) of WORD is 0", (x, c) -> {
            x.box(3, 7);
            // WORD 0000111 from the highest bit on, the other way round 1110000, unlike that 0001111
            c.due("of []", x.of(0, 6), 0b0001111);
            c.due("of [444]", x.of(34, 6), 0b1111000);
            // beads 6 2 0: 1000101, the other way round 1010001
            c.due("of [41]", x.of(x.number(41), 6), 0b0101110);
        });
        ALL.edge("5: what is 0 .. 6", (x, c) -> {
            int[] want = {4, 2, 3, 12, 0, 2, 12};
            for (int what = 0; what < 7; what++) {
                c.due("of(5, " + what + ")", x.of(5, what), want[what]);
            }
            c.due("of(5, -1)", x.of(5, -1), -2);
            c.due("of(5, 7)", x.of(5, 7), -2);
            c.due("of(5, least)", x.of(5, LEAST), -2);
            c.due("of(5, greatest)", x.of(5, GREATEST), -2);
        });
        ALL.edge("5: BAD: i", (x, c) -> {
            for (int what = 0; what < 7; what++) {
                c.due("of(-1, " + what + ")", x.of(-1, what), -2);
                c.due("of(6, " + what + ")", x.of(6, what), -2);
                c.due("of(least, " + what + ")", x.of(LEAST, what), -2);
                c.due("of(greatest, " + what + ")", x.of(GREATEST, what), -2);
                c.due("of(1 << 30, " + what + ")", x.of(1 << 30, what), -2);
            }
        });
        ALL.edge("5: how many rows aren't empty: none, all", (x, c) -> {
            for (int rows = 1; rows <= 4; rows++) {
                int last = x.box(rows, rows + 1) - 1;
                c.due("of(0, 1)", x.of(0, 1), 0);
                c.due("of(last, 1)", x.of(last, 1), rows);
                c.due("SIZE of EMPTY", x.of(0, 0), 0);
                c.due("SIZE of the last", x.of(last, 0), rows);
            }
        });
    }

    private static void numbers() {
        ALL.edge("4: (0: EMPTY)", (x, c) -> c.due("number(0)", x.number(0), 0));
        ALL.edge("4: BAD: below 0", (x, c) -> {
            c.due("number(-1)", x.number(-1), -2);
            c.due("number(-21)", x.number(-21), -2);
            c.due("number(least)", x.number(LEAST), -2);
        });
        ALL.edge("4: the first one highest", (x, c) -> {
            x.box(4, 7);
            c.due("row 0 of number(321)", x.row(x.number(321), 0), 3);
            c.due("row 2 of number(321)", x.row(x.number(321), 2), 1);
            c.due("row 3 of number(321)", x.row(x.number(321), 3), 0);
        });
        ALL.edge("4: NONE: a row greater than that ahead", (x, c) -> {
            x.box(4, 7);
            c.due("number(12)", x.number(12), -1);
            // greater by more than 1: the BEADS would be those of a SHAPE
            c.due("number(13)", x.number(13), -1);
            c.due("number(113)", x.number(113), -1);
            c.due("number(2231)", x.number(2231), -1);
            x.box(2, 7);
            for (int digits = 12; digits <= 15; digits++) {
                c.due("number(" + digits + ")", x.number(digits), -1);
            }
        });
        ALL.edge("4: NONE: more rows than ROWS", (x, c) -> {
            c.due("number(22)", x.number(22), 5);
            c.due("number(111)", x.number(111), -1);
            c.due("number(222)", x.number(222), -1);
            x.box(4, 5);
            c.due("number(1111)", x.number(1111), 4);
            c.due("number(11111)", x.number(11111), -1);
            c.due("number(1111111111)", x.number(1111111111), -1);
            x.box(1, 7);
            c.due("number(1)", x.number(1), 1);
            c.due("number(11)", x.number(11), -1);
        });
        ALL.edge("4: NONE: a row longer than WIDTH", (x, c) -> {
            c.due("number(2)", x.number(2), 2);
            c.due("number(3)", x.number(3), -1);
            c.due("number(31)", x.number(31), -1);
            c.due("number(9)", x.number(9), -1);
            x.box(1, 7);
            c.due("number(6)", x.number(6), 6);
            c.due("number(7)", x.number(7), -1);
        });
        ALL.edge("4: NONE: a 0 is no row that isn't empty", (x, c) -> {
            c.due("number(10)", x.number(10), -1);
            c.due("number(20)", x.number(20), -1);
            x.box(4, 7);
            c.due("number(100)", x.number(100), -1);
            c.due("number(101)", x.number(101), -1);
            c.due("number(3210)", x.number(3210), -1);
            c.due("number(2000)", x.number(2000), -1);
        });
        ALL.edge("4: the greatest int", (x, c) -> c.due("number(greatest)", x.number(GREATEST), -1));
    }

    private static void refusals() {
        ALL.edge("Refusals change nothing (row, number, of, kinds)", (x, c) -> {
            Check.read(x, "3+q*[21]-[1]");
            Check.feed(x, "12");
            x.sheet(1, 0, 3);
            String state = Edges.state(x);
            x.row(6, 0);
            x.row(0, 2);
            x.number(-1);
            x.number(99);
            x.of(6, 0);
            x.of(0, 7);
            x.kinds(6);
            c.holds("all is as it was", Edges.state(x).equals(state));
        });
        ALL.edge("What is asked changes nothing (row, number, of, kinds)", (x, c) -> {
            Check.read(x, "3+q*[21]-[1]");
            Check.feed(x, "12");
            x.sheet(1, 0, 3);
            String state = Edges.state(x);
            for (int i = 0; i < 6; i++) {
                x.row(i, 1);
                x.number(i);
                x.kinds(i);
                for (int what = 0; what < 7; what++) {
                    x.of(i, what);
                }
            }
            c.holds("all is as it was", Edges.state(x).equals(state));
        });
    }
}
