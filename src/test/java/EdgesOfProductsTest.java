/** A test for each sentence on TAKEN ROUND, PRODUCTS and ROOTS (promises 7 to 12) that names an edge. */
public final class EdgesOfProductsTest {
    private static final Edges ALL = new Edges("EdgesOfProductsTest");
    private static final int LEAST = Integer.MIN_VALUE, GREATEST = Integer.MAX_VALUE;

    public static void main(String[] args) {
        takenRound();
        strips();
        times();
        turns();
        around();
        hooks();
        roots();
        rootsOf();
        refusals();
        ALL.end();
    }

    private static void hooked(Check c, HookBoxes x, int sign, int turns, int shape, int... rows) {
        Check.tell(x, 0, rows);
        String told = java.util.Arrays.toString(rows);
        c.due("sign of " + told, x.hooks(0, 0), sign);
        c.due("TURNS of " + told, x.hooks(0, 1), turns);
        c.due("SHAPE of " + told, x.hooks(0, 2), shape);
    }

    private static void takenRound() {
        ALL.edge("TAKEN ROUND: a BEAD of ROUND less 1 is none to take off", (x, c) -> {
            hooked(c, x, 1, 0, 2, 2, 0);
            x.box(3, 7);
            hooked(c, x, 1, 0, x.number(4), 4, 0, 0);
            x.box(1, 7);
            hooked(c, x, 1, 0, 6, 6);
        });
        ALL.edge("TAKEN ROUND: as long as one is ROUND or more, that one is ROUND less", (x, c) -> {
            x.box(1, 7);
            hooked(c, x, 1, 1, 0, 7);
            hooked(c, x, 1, 1, 6, 13);
            hooked(c, x, 1, 2, 0, 14);
            hooked(c, x, 1, 2, 6, 20);
            x.box(1, 2);
            hooked(c, x, 1, 9, 1, 19);
            hooked(c, x, 1, 10, 0, 20);
        });
        ALL.edge("TAKEN ROUND: the sign becomes the other one by each TURN, if ROWS are even", (x, c) -> {
            // beads 5 0 and 9 0 become 1 0, by one TURN and by two
            hooked(c, x, -1, 1, 0, 4, 0);
            hooked(c, x, 1, 2, 0, 8, 0);
            x.box(4, 7);
            // beads 10 2 1 0, and 17 2 1 0, become 3 2 1 0
            hooked(c, x, -1, 1, 0, 7, 0, 0, 0);
            hooked(c, x, 1, 2, 0, 14, 0, 0, 0);
        });
        ALL.edge("TAKEN ROUND: if ROWS are odd, a TURN leaves the sign", (x, c) -> {
            x.box(3, 7);
            // beads 9 1 0 and 16 1 0 become 2 1 0
            hooked(c, x, 1, 1, 0, 7, 0, 0);
            hooked(c, x, 1, 2, 0, 14, 0, 0);
        });
        ALL.edge("TAKEN ROUND: the sign becomes the other one for each two that stood the wrong way round", (x, c) -> {
            x.box(3, 7);
            // beads 8 2 0 become 1 2 0; 7 2 1: 0 2 1; 10 9 1: 3 2 1; 7 3 2: 0 3 2; 7 3 1: 0 3 1
            hooked(c, x, -1, 1, 0, 6, 1, 0);
            hooked(c, x, 1, 1, 0, 5, 1, 1);
            hooked(c, x, 1, 2, x.number(111), 8, 8, 1);
            hooked(c, x, 1, 1, x.number(11), 5, 2, 2);
            hooked(c, x, 1, 1, x.number(1), 5, 2, 1);
            // beads 9 7 4: 2 0 4; 12 7 6: 5 0 6; 8 7 3: 1 0 3; 8 3 2: 1 3 2
            hooked(c, x, 1, 2, x.number(21), 7, 6, 4);
            hooked(c, x, 1, 2, x.number(44), 10, 6, 6);
            hooked(c, x, 1, 2, x.number(1), 6, 6, 3);
            hooked(c, x, 1, 1, x.number(111), 6, 2, 2);
        });
        ALL.edge("TAKEN ROUND: if two are alike, it comes to nothing", (x, c) -> {
            // beads 4 0: 0 0; beads 5 1; beads 8 4: 0 0
            hooked(c, x, 0, -1, -1, 3, 0);
            hooked(c, x, 0, -1, -1, 4, 1);
            hooked(c, x, 0, -1, -1, 7, 4);
            x.box(3, 7);
            // the first and the last alike: beads 7 1 0
            hooked(c, x, 0, -1, -1, 5, 0, 0);
        });
    }

    private static void often(Check c, HookBoxes x, int i, int j, int l, int often) {
        String call = "([" + i + "], [" + j + "], [" + l + "], ";
        int a = x.number(i);
        int b = x.number(j);
        int to = x.number(l);
        c.due("times" + call + "0)", x.times(a, b, to, 0), often);
        c.due("times" + call + "1)", x.times(a, b, to, 1),
            often == 0 ? -1 : (x.of(a, 0) + x.of(b, 0) - x.of(to, 0)) / x.count(2));
    }

    private static void strips() {
        ALL.edge("STRIP: row 0 by as much as you like", (x, c) -> {
            x.box(1, 7);
            // row 0 comes to 12
            often(c, x, 6, 6, 5, 1);
            often(c, x, 6, 1, 0, 1);
        });
        ALL.edge("STRIP: each other one at most what the row ahead was", (x, c) -> {
            x.box(2, 5);
            often(c, x, 1, 3, 31, 1);
            often(c, x, 1, 3, 22, 0);
            often(c, x, 11, 1, 21, 1);
        });
        ALL.edge("A SHAPE TIMES 0 is the SHAPE", (x, c) -> {
            for (int i = 0; i < 6; i++) {
                for (int l = 0; l < 6; l++) {
                    c.due("times(" + i + ", 0, " + l + ", 0)", x.times(i, 0, l, 0), i == l ? 1 : 0);
                    c.due("times(0, " + i + ", " + l + ", 0)", x.times(0, i, l, 0), i == l ? 1 : 0);
                    c.due("times(0, " + i + ", " + l + ", 1)", x.times(0, i, l, 1), i == l ? 0 : -1);
                }
            }
        });
        ALL.edge("PRODUCT: nothing, if one of these is below 0", (x, c) -> {
            x.box(3, 7);
            // [1] [111]: row 2 of the latter to place 0 would be 1 less 2
            often(c, x, 1, 111, 211, 1);
            often(c, x, 1, 111, 22, 0);
            often(c, x, 111, 111, 222, 1);
        });
        ALL.edge("PRODUCT: nothing, if one of these is above WIDTH", (x, c) -> {
            // [22] to places 1 0: 3 and 1
            often(c, x, 22, 22, 0, 1);
            often(c, x, 22, 22, 22, 0);
            often(c, x, 1, 22, 1, 1);
        });
        ALL.edge("PRODUCT: with the sign of the order", (x, c) -> {
            // [1] [1] twice is [2] and [11]; less [2], [11] is left
            often(c, x, 0, 11, 11, 1);
            often(c, x, 0, 11, 2, 0);
            x.box(4, 7);
            // an order of three or four rows may have an even number of twos the wrong way round
            often(c, x, 0, 111, 111, 1);
            often(c, x, 0, 111, 3, 0);
            often(c, x, 0, 111, 21, 0);
            often(c, x, 0, 3321, 3321, 1);
            often(c, x, 0, 3321, 333, 0);
        });
        ALL.edge("PRODUCT: with the sign of an order of which two twos stand the wrong way round", (x, c) -> {
            x.box(3, 7);
            // [222] to places 1 2 0: 3 3 0
            often(c, x, 0, 222, 222, 1);
            often(c, x, 0, 222, 33, 0);
            often(c, x, 0, 333, 333, 1);
            often(c, x, 0, 333, 441, 0);
        });
        ALL.edge("PRODUCTS by the last SHAPE, and by the first of the next one", (x, c) -> {
            for (int rows = 3; rows <= 4; rows++) {
                x.box(rows, 7);
                for (int i = 0; i < 34; i++) {
                    c.due("turns(" + i + ", 34, 2)", x.turns(i, 34, 2), 1);
                    c.due("times(" + (i + 1) + ", 0, " + (i + 1) + ", 0)", x.times(i + 1, 0, i + 1, 0), 1);
                    c.due("turns(" + (i + 1) + ", 0, 2)", x.turns(i + 1, 0, 2), 1);
                }
            }
        });
        ALL.edge("OFTEN is a sum: more than 1", (x, c) -> {
            x.box(3, 6);
            often(c, x, 21, 21, 321, 2);
            often(c, x, 21, 21, 0, 1);
        });
    }

    private static void times() {
        ALL.edge("7: TURNS 0, 1, 2 where that isn't 0", (x, c) -> {
            c.due("times(1, 1, 2, 1)", x.times(1, 1, 2, 1), 0);
            c.due("times(1, 4, 0, 1)", x.times(1, 4, 0, 1), 1);
            c.due("times(5, 5, 0, 1)", x.times(5, 5, 0, 1), 2);
        });
        ALL.edge("7: NONE: OFTEN is 0", (x, c) -> {
            // the SIZES would do, OFTEN is 0; the SIZES do not; l is greater than both
            c.due("times(2, 2, 0, 1)", x.times(2, 2, 0, 1), -1);
            c.due("times(2, 3, 5, 1)", x.times(2, 3, 5, 1), -1);
            c.due("times(1, 1, 1, 1)", x.times(1, 1, 1, 1), -1);
            c.due("times(0, 0, 5, 1)", x.times(0, 0, 5, 1), -1);
            c.due("times(0, 0, 5, 0)", x.times(0, 0, 5, 0), 0);
        });
        ALL.edge("7: the most TURNS", (x, c) -> {
            int last = x.box(4, 7) - 1;
            // 24 less 3 by 7
            c.due("times(last, last, [3], 1) or ([111])", Math.max(x.times(last, last, x.number(3), 1),
                x.times(last, last, x.number(111), 1)), 3);
            last = x.box(3, 6) - 1;
            c.due("times(last, last, 0, 1)", x.times(last, last, 0, 1), 3);
        });
        ALL.edge("7: BAD: i", (x, c) -> {
            c.due("times(5, 0, 5, 0)", x.times(5, 0, 5, 0), 1);
            for (int bad : new int[] {-1, 6, LEAST, GREATEST, 1 << 30}) {
                c.due("times(" + bad + ", 0, 0, 0)", x.times(bad, 0, 0, 0), -2);
            }
        });
        ALL.edge("7: BAD: j", (x, c) -> {
            c.due("times(0, 5, 5, 0)", x.times(0, 5, 5, 0), 1);
            for (int bad : new int[] {-1, 6, LEAST, GREATEST, 1 << 30}) {
                c.due("times(0, " + bad + ", 0, 0)", x.times(0, bad, 0, 0), -2);
            }
        });
        ALL.edge("7: BAD: l", (x, c) -> {
            for (int bad : new int[] {-1, 6, LEAST, GREATEST, 1 << 30}) {
                c.due("times(0, 0, " + bad + ", 0)", x.times(0, 0, bad, 0), -2);
                c.due("times(0, 0, " + bad + ", 1)", x.times(0, 0, bad, 1), -2);
            }
        });
        ALL.edge("7: BAD: what", (x, c) -> {
            for (int bad : new int[] {-1, 2, LEAST, GREATEST}) {
                c.due("times(0, 0, 0, " + bad + ")", x.times(0, 0, 0, bad), -2);
            }
        });
        ALL.edge("7: PRODUCTS of a box that was are forgotten", (x, c) -> {
            c.due("[1] [1], [2] of box 2 4", x.times(1, 1, 2, 0), 1);
            x.box(1, 2);
            c.due("[1] [1], [] of box 1 2", x.times(1, 1, 0, 0), 1);
            c.due("[1] [1], [] of box 1 2", x.times(1, 1, 0, 1), 1);
            x.box(2, 4);
            c.due("[1] [1], [] of box 2 4", x.times(1, 1, 0, 0), 0);
            c.due("[1] [1], [2] of box 2 4", x.times(1, 1, 2, 0), 1);
        });
    }

    private static void turns() {
        ALL.edge("8: the least, the greatest TURNS, unlike", (x, c) -> {
            // [1] [21] is [22] and, round once, []
            c.due("turns(1, 4, 0)", x.turns(1, 4, 0), 0);
            c.due("turns(1, 4, 1)", x.turns(1, 4, 1), 1);
        });
        ALL.edge("8: the least, the greatest TURNS, alike", (x, c) -> {
            c.due("turns(5, 5, 0)", x.turns(5, 5, 0), 2);
            c.due("turns(5, 5, 1)", x.turns(5, 5, 1), 2);
            c.due("turns(0, 0, 0)", x.turns(0, 0, 0), 0);
            c.due("turns(0, 0, 1)", x.turns(0, 0, 1), 0);
        });
        ALL.edge("8: how many SHAPES, OFTEN of all, unlike", (x, c) -> {
            x.box(3, 6);
            // [33], [321] twice, [222], and [] round once
            int i = x.number(21);
            c.due("turns([21], [21], 2)", x.turns(i, i, 2), 4);
            c.due("turns([21], [21], 3)", x.turns(i, i, 3), 5);
        });
        ALL.edge("8: BAD: i, j, what", (x, c) -> {
            for (int bad : new int[] {-1, 6, LEAST, GREATEST, 1 << 30}) {
                c.due("turns(" + bad + ", 0, 0)", x.turns(bad, 0, 0), -2);
                c.due("turns(0, " + bad + ", 0)", x.turns(0, bad, 0), -2);
            }
            for (int bad : new int[] {-1, 4, LEAST, GREATEST}) {
                c.due("turns(0, 0, " + bad + ")", x.turns(0, 0, bad), -2);
            }
        });
    }

    private static void around() {
        ALL.edge("9: how many, the first", (x, c) -> {
            // [21] is in [1] [2] and in [1] [11]
            c.due("around(4, 1, 0, 0)", x.around(4, 1, 0, 0), 2);
            c.due("around(4, 1, 0, 1)", x.around(4, 1, 0, 1), 2);
        });
        ALL.edge("9: NONE: there is none", (x, c) -> {
            c.due("around(1, 4, 0, 0)", x.around(1, 4, 0, 0), 0);
            c.due("around(1, 4, 0, 1)", x.around(1, 4, 0, 1), -1);
        });
        ALL.edge("9: the first is EMPTY", (x, c) -> {
            for (int i = 0; i < 6; i++) {
                c.due("around(" + i + ", " + i + ", 0, 0)", x.around(i, i, 0, 0), 1);
                c.due("around(" + i + ", " + i + ", 0, 1)", x.around(i, i, 0, 1), 0);
            }
        });
        ALL.edge("9: with d TURNS (0 .. 7), just so many", (x, c) -> {
            // [] is in [22] [22], round twice
            int[] want = {0, 0, 1, 0, 0, 0, 0, 0};
            for (int d = 0; d < 8; d++) {
                c.due("around(0, 5, " + d + ", 0)", x.around(0, 5, d, 0), want[d]);
                c.due("around(0, 5, " + d + ", 1)", x.around(0, 5, d, 1), want[d] == 0 ? -1 : 5);
            }
        });
        ALL.edge("9: BAD: l", (x, c) -> {
            for (int bad : new int[] {-1, 6, LEAST, GREATEST, 1 << 30}) {
                c.due("around(" + bad + ", 0, 0, 0)", x.around(bad, 0, 0, 0), -2);
            }
        });
        ALL.edge("9: BAD: i", (x, c) -> {
            for (int bad : new int[] {-1, 6, LEAST, GREATEST, 1 << 30}) {
                c.due("around(0, " + bad + ", 0, 0)", x.around(0, bad, 0, 0), -2);
            }
        });
        ALL.edge("9: BAD: d", (x, c) -> {
            for (int bad : new int[] {-1, 8, LEAST, GREATEST}) {
                c.due("around(0, 0, " + bad + ", 0)", x.around(0, 0, bad, 0), -2);
                c.due("around(0, 0, " + bad + ", 1)", x.around(0, 0, bad, 1), -2);
            }
        });
        ALL.edge("9: BAD: what", (x, c) -> {
            for (int bad : new int[] {-1, 2, LEAST, GREATEST}) {
                c.due("around(0, 0, 0, " + bad + ")", x.around(0, 0, 0, bad), -2);
            }
        });
    }

    private static void refused(Check c, HookBoxes x, int... rows) {
        Check.tell(x, 0, rows);
        for (int what = 0; what < 3; what++) {
            c.due("hooks of " + java.util.Arrays.toString(rows) + ", " + what, x.hooks(0, what), -1000);
        }
    }

    private static void hooks() {
        ALL.edge("10: -1000: no such SHEET", (x, c) -> {
            for (int bad : new int[] {-1, 4, LEAST, GREATEST}) {
                c.due("hooks(" + bad + ", 0)", x.hooks(bad, 0), -1000);
            }
            Check.tell(x, 3, 1, 0);
            c.due("hooks(3, 2)", x.hooks(3, 2), 1);
        });
        ALL.edge("10: -1000: no such what", (x, c) -> {
            Check.tell(x, 0, 1, 0);
            for (int bad : new int[] {-1, 3, LEAST, GREATEST}) {
                c.due("hooks(0, " + bad + ")", x.hooks(0, bad), -1000);
            }
        });
        ALL.edge("10: -1011: it is missing", (x, c) -> {
            for (int s = 0; s < 4; s++) {
                for (int what = 0; what < 3; what++) {
                    c.due("hooks(" + s + ", " + what + ")", x.hooks(s, what), -1011);
                }
            }
        });
        ALL.edge("10: no such what is refused ahead of a SHEET that is missing", (x, c) -> {
            c.due("hooks(0, 3)", x.hooks(0, 3), -1000);
            c.due("hooks(0, -1)", x.hooks(0, -1), -1000);
        });
        ALL.edge("10: -1000: it tells not just as many as ROWS", (x, c) -> {
            refused(c, x);
            refused(c, x, 1);
            refused(c, x, 1, 0, 0);
            refused(c, x, new int[40]);
            x.box(4, 7);
            refused(c, x, 0, 0, 0);
            refused(c, x, 0, 0, 0, 0, 0);
            x.box(1, 2);
            refused(c, x);
            refused(c, x, 0, 0);
        });
        ALL.edge("10: one is 0 .. 20", (x, c) -> {
            hooked(c, x, 1, 0, 0, 0, 0);
            // beads 21 20: 1 0 by ten TURNS; beads 21 0 by five: the sign is turned
            hooked(c, x, 1, 10, 0, 20, 20);
            hooked(c, x, -1, 5, 0, 20, 0);
        });
        ALL.edge("10: -1000: one is above 20", (x, c) -> {
            refused(c, x, 21, 0);
            refused(c, x, 21, 21);
            refused(c, x, GREATEST, 0);
            x.box(1, 2);
            refused(c, x, 21);
        });
        ALL.edge("10: -1000: one is below 0", (x, c) -> {
            refused(c, x, 0, -1);
            refused(c, x, -1, -1);
            refused(c, x, 5, LEAST);
        });
        ALL.edge("10: -1000: one is greater than that ahead", (x, c) -> {
            refused(c, x, 0, 1);
            refused(c, x, 19, 20);
            x.box(4, 7);
            refused(c, x, 3, 3, 3, 4);
            refused(c, x, 2, 0, 1, 0);
            hooked(c, x, 1, 0, x.number(3333), 3, 3, 3, 3);
        });
        ALL.edge("10: SHEETS of shorts, too", (x, c) -> {
            x.sheet(0, 0, 2);
            x.put(0, 0, 65536 + 2);
            c.due("hooks(0, 2)", x.hooks(0, 2), 2);
            x.put(0, 1, 65535);
            c.due("hooks(0, 2): row 1 has -1", x.hooks(0, 2), -1000);
        });
        ALL.edge("10: 0, NONE, NONE: nothing", (x, c) -> hooked(c, x, 0, -1, -1, 3, 0));
    }

    private static void roots() {
        ALL.edge("11: ROOTS of each number of ROWS, odd and even, by the least and the greatest ROUND", (x, c) -> {
            int[][] boxes = {{1, 2}, {1, 7}, {2, 3}, {2, 7}, {3, 4}, {3, 7}, {4, 5}, {4, 7}};
            for (int[] b : boxes) {
                int last = x.box(b[0], b[1]) - 1;
                c.due("roots(0, 0, 0)", x.roots(0, 0, 0), 1);
                c.due("roots(0, last, last)", x.roots(0, last, last), 1);
                for (int l = 0; l <= last; l++) {
                    c.due("roots(last, 1, " + l + ")", x.roots(last, 1, l), x.times(last, 1, l, 0));
                }
            }
        });
        ALL.edge("11: PRODUCT of i, j alone, also behind one of more SHAPES", (x, c) -> {
            Check.tell(x, 0, 4, 4, 4, 4, 4, 4, 4, 4);
            x.rootsOf(0, 0);
            c.due("roots(1, 1, 2)", x.roots(1, 1, 2), 1);
            c.due("roots(1, 4, 0)", x.roots(1, 4, 0), 1);
        });
        ALL.edge("11: OFTEN is 0", (x, c) -> {
            c.due("roots(0, 0, 5)", x.roots(0, 0, 5), 0);
            c.due("roots(2, 3, 5)", x.roots(2, 3, 5), 0);
            c.due("roots(1, 1, 1)", x.roots(1, 1, 1), 0);
        });
        ALL.edge("11: BAD: i, j, l", (x, c) -> {
            for (int bad : new int[] {-1, 6, LEAST, GREATEST, 1 << 30}) {
                c.due("roots(" + bad + ", 0, 0)", x.roots(bad, 0, 0), -2);
                c.due("roots(0, " + bad + ", 0)", x.roots(0, bad, 0), -2);
                c.due("roots(0, 0, " + bad + ")", x.roots(0, 0, bad), -2);
            }
        });
        ALL.edge("11: ROOTS of a box that was are forgotten", (x, c) -> {
            c.due("roots(1, 4, 0)", x.roots(1, 4, 0), 1);
            x.box(3, 6);
            int i = x.number(21);
            c.due("roots([21], [21], [321])", x.roots(i, i, x.number(321)), 2);
            x.box(2, 4);
            c.due("roots(1, 4, 0)", x.roots(1, 4, 0), 1);
        });
        ALL.edge("11: ROOTS of a box that is back", (x, c) -> {
            x.image();
            x.box(3, 6);
            c.due("roots(1, 1, 3)", x.roots(1, 1, 3), 1);
            x.back();
            c.due("roots(1, 4, 0)", x.roots(1, 4, 0), 1);
        });
    }

    private static void rootsOf() {
        ALL.edge("12: of none: EMPTY", (x, c) -> {
            Check.tell(x, 0);
            for (int l = 0; l < 6; l++) {
                c.due("rootsOf(0, " + l + ")", x.rootsOf(0, l), l == 0 ? 1 : 0);
            }
        });
        ALL.edge("12: of one: that one", (x, c) -> {
            Check.tell(x, 0, 5);
            for (int l = 0; l < 6; l++) {
                c.due("rootsOf(0, " + l + ")", x.rootsOf(0, l), l == 5 ? 1 : 0);
            }
        });
        ALL.edge("12: 8 at most", (x, c) -> {
            // [1] four times is twice [22] and twice round []; so eight times: 4 + 4
            Check.tell(x, 0, 1, 1, 1, 1, 1, 1, 1, 1);
            c.due("rootsOf of 8", x.rootsOf(0, 0), 8);
        });
        ALL.edge("12: BAD: more than 8", (x, c) -> {
            Check.tell(x, 0, 1, 1, 1, 1, 1, 1, 1, 1, 1);
            c.due("rootsOf of 9", x.rootsOf(0, 0), -2);
            x.sheet(0, 0, 40);
            c.due("rootsOf of 40", x.rootsOf(0, 0), -2);
        });
        ALL.edge("12: BAD: more than 8, ahead of STATE", (x, c) -> {
            Check.tell(x, 0, 6, 6, 6, 6, 6, 6, 6, 6, 6);
            c.due("rootsOf of 9", x.rootsOf(0, 0), -2);
        });
        ALL.edge("12: STATE: it tells what is no SHAPE", (x, c) -> {
            for (int bad : new int[] {-1, 6, 34, LEAST, GREATEST, 1 << 30}) {
                Check.tell(x, 0, 5, bad, 0);
                c.due("rootsOf with " + bad, x.rootsOf(0, 0), -3);
                Check.tell(x, 0, 0, 0, 0, 0, 0, 0, 0, bad);
                c.due("rootsOf with " + bad + " at the end", x.rootsOf(0, 0), -3);
            }
        });
        ALL.edge("12: BAD: SHEET", (x, c) -> {
            for (int bad : new int[] {-1, 4, LEAST, GREATEST}) {
                c.due("rootsOf(" + bad + ", 0)", x.rootsOf(bad, 0), -2);
            }
            Check.tell(x, 3, 1);
            c.due("rootsOf(3, 1)", x.rootsOf(3, 1), 1);
        });
        ALL.edge("12: BAD: l", (x, c) -> {
            Check.tell(x, 0, 1);
            for (int bad : new int[] {-1, 6, LEAST, GREATEST, 1 << 30}) {
                c.due("rootsOf(0, " + bad + ")", x.rootsOf(0, bad), -2);
            }
        });
        ALL.edge("12: BAD: l, ahead of -11 and of STATE", (x, c) -> {
            c.due("rootsOf(0, 6)", x.rootsOf(0, 6), -2);
            Check.tell(x, 0, 6);
            c.due("rootsOf(0, 6)", x.rootsOf(0, 6), -2);
        });
        ALL.edge("12: -11", (x, c) -> {
            for (int s = 0; s < 4; s++) {
                c.due("rootsOf(" + s + ", 0)", x.rootsOf(s, 0), -11);
            }
        });
        ALL.edge("12: 0 .. 2520: what is more is told modulo 2521", (x, c) -> {
            x.box(3, 7);
            // [21] eight times has [3] 4592 times, as THE SUM tells without ROOTS
            Check.read(x, "[21]*[21]*[21]*[21]*[21]*[21]*[21]");
            x.multiply(x.number(21));
            int i = x.number(21);
            Check.tell(x, 0, i, i, i, i, i, i, i, i);
            int over = 0;
            for (int l = 0; l < 35; l++) {
                int often = 0;
                for (int d = 0; d < 8; d++) {
                    often += x.term(d, l);
                }
                over += often > 2520 ? 1 : 0;
                c.due("rootsOf(0, " + l + ") of " + often, x.rootsOf(0, l), often % 2521);
            }
            c.holds("some are more", over > 0);
        });
        ALL.edge("12: a SHEET of shorts", (x, c) -> {
            x.sheet(0, 0, 2);
            x.put(0, 0, 65536 + 1);
            x.put(0, 1, 4);
            c.due("rootsOf(0, 5)", x.rootsOf(0, 5), 1);
            x.put(0, 1, 65535);
            c.due("rootsOf(0, 5)", x.rootsOf(0, 5), -3);
        });
        ALL.edge("12: numbers that are SHAPES of another box", (x, c) -> {
            x.box(4, 7);
            Check.tell(x, 0, 34);
            c.due("rootsOf(0, 34)", x.rootsOf(0, 34), 1);
            x.box(2, 4);
            c.due("rootsOf(0, 0)", x.rootsOf(0, 0), -3);
        });
    }

    private static void refusals() {
        ALL.edge("Refusals change nothing (times, turns, around, hooks, roots, rootsOf)", (x, c) -> {
            Check.read(x, "3+q*[21]-[1]");
            Check.feed(x, "12");
            Check.tell(x, 1, 6, 0, 0);
            String state = Edges.state(x);
            x.times(6, 0, 0, 0);
            x.turns(0, 6, 0);
            x.around(0, 0, 8, 0);
            x.hooks(1, 0);
            x.hooks(0, 0);
            x.roots(0, 0, 6);
            x.rootsOf(1, 0);
            x.rootsOf(0, 0);
            c.holds("all is as it was", Edges.state(x).equals(state));
            c.holds("sheet 1, too", Edges.told(x, 1, 1, 3).equals("6 0 0"));
        });
        ALL.edge("What is asked changes nothing (times, turns, around, hooks, roots, rootsOf)", (x, c) -> {
            Check.read(x, "3+q*[21]-[1]");
            Check.feed(x, "12");
            Check.tell(x, 1, 5, 4);
            String state = Edges.state(x);
            for (int i = 0; i < 6; i++) {
                x.times(i, 5, 0, 1);
                x.turns(i, 5, 1);
                x.around(i, 5, 1, 1);
                x.roots(i, 5, 1);
                x.rootsOf(1, i);
                x.hooks(1, i % 3);
            }
            c.holds("all is as it was", Edges.state(x).equals(state));
            c.holds("sheet 1, too", Edges.told(x, 1, 1, 2).equals("5 4"));
        });
    }
}
