/** Promises 7 to 12. */
public final class ProductsTest {
    private static final Check CHECK = new Check("ProductsTest");

    public static void main(String[] args) {
        times();
        turns();
        around();
        hooks();
        roots();
        rootsOf();
        for (int rows = 1; rows <= 4; rows++) {
            for (int round = rows + 1; round <= 7; round++) {
                everyProduct(rows, round);
                everyHook(rows, round);
            }
        }
        CHECK.end();
    }

    private static void due(String call, long got, long want) {
        CHECK.due(call, got, want);
    }

    /** Promise 7: of Gr(2, 4): [1][1] = [2] + [11], [1][21] = [22] + q, [21][21] = q[2] + q[11], [22][22] = q q. */
    private static void times() {
        HookBoxes x = new HookBoxes();
        int[][] want = {{1, 1, 2, 1, 0}, {1, 1, 3, 1, 0}, {1, 1, 0, 0, -1}, {1, 1, 5, 0, -1}, {1, 4, 5, 1, 0}, {1, 4, 0, 1, 1},
            {4, 4, 2, 1, 1}, {4, 4, 3, 1, 1}, {4, 4, 4, 0, -1}, {5, 5, 0, 1, 2}, {5, 5, 5, 0, -1}, {2, 3, 0, 1, 1},
            {2, 3, 5, 0, -1}, {2, 2, 5, 1, 0}, {5, 1, 1, 1, 1}, {5, 1, 4, 0, -1}, {5, 2, 3, 1, 1}};
        for (int[] w : want) {
            String call = "times(" + w[0] + ", " + w[1] + ", " + w[2] + ", ";
            due(call + "0)", x.times(w[0], w[1], w[2], 0), w[3]);
            due(call + "1)", x.times(w[0], w[1], w[2], 1), w[4]);
        }
        int[][] bad = {{6, 0, 0, 0}, {-1, 0, 0, 0}, {0, 6, 0, 0}, {0, -1, 0, 0}, {0, 0, 6, 0}, {0, 0, -1, 0}, {0, 0, 0, 2},
            {0, 0, 0, -1}, {Integer.MAX_VALUE, 0, 0, 0}, {0, Integer.MIN_VALUE, 0, 1}, {0, 0, 35, 0}};
        for (int[] b : bad) {
            due("times of bad", x.times(b[0], b[1], b[2], b[3]), -2);
        }
        x.box(3, 6);
        int i = x.number(21);
        due("[21][21]: [321] twice", x.times(i, i, x.number(321), 0), 2);
        due("[21][21]: [321] with no turn", x.times(i, i, x.number(321), 1), 0);
        due("[21][21]: [] once", x.times(i, i, 0, 0), 1);
        due("[21][21]: [] with a turn", x.times(i, i, 0, 1), 1);
    }

    /** Promise 8. */
    private static void turns() {
        HookBoxes x = new HookBoxes();
        int[][] want = {{1, 1, 0, 0, 2, 2}, {1, 4, 0, 1, 2, 2}, {4, 4, 1, 1, 2, 2}, {5, 5, 2, 2, 1, 1}, {0, 0, 0, 0, 1, 1},
            {2, 3, 1, 1, 1, 1}};
        for (int[] w : want) {
            for (int what = 0; what < 4; what++) {
                due("turns(" + w[0] + ", " + w[1] + ", " + what + ")", x.turns(w[0], w[1], what), w[what + 2]);
            }
        }
        int[][] bad = {{6, 0, 0}, {-1, 0, 0}, {0, 6, 0}, {0, -1, 0}, {0, 0, 4}, {0, 0, -1}};
        for (int[] b : bad) {
            due("turns of bad", x.turns(b[0], b[1], b[2]), -2);
        }
    }

    /** Promise 9. */
    private static void around() {
        HookBoxes x = new HookBoxes();
        int[][] want = {{0, 1, 1, 1, 4}, {0, 1, 0, 0, -1}, {4, 1, 0, 2, 2}, {4, 1, 1, 0, -1}, {1, 4, 1, 2, 2}, {1, 4, 0, 0, -1}, {2, 4, 1, 1, 4},
            {0, 5, 2, 1, 5}, {0, 5, 1, 0, -1}, {5, 0, 0, 1, 5}, {5, 0, 7, 0, -1}};
        for (int[] w : want) {
            String call = "around(" + w[0] + ", " + w[1] + ", " + w[2] + ", ";
            due(call + "0)", x.around(w[0], w[1], w[2], 0), w[3]);
            due(call + "1)", x.around(w[0], w[1], w[2], 1), w[4]);
        }
        int[][] bad = {{6, 0, 0, 0}, {-1, 0, 0, 0}, {0, 6, 0, 0}, {0, -1, 0, 0}, {0, 0, 8, 0}, {0, 0, -1, 0}, {0, 0, 0, 2},
            {0, 0, 0, -1}};
        for (int[] b : bad) {
            due("around of bad", x.around(b[0], b[1], b[2], b[3]), -2);
        }
    }

    /** Promise 10. */
    private static void hooks() {
        HookBoxes x = new HookBoxes();
        int[][] want = {{0, 0, 1, 0, 0}, {2, 1, 1, 0, 4}, {4, 0, 1, 1, 0}, {3, 1, -1, 1, 0}, {3, 0, 0, -1, -1},
            {4, 4, 1, 2, 0}, {20, 20, 1, 10, 0}, {20, 0, 1, 5, 0}, {6, 3, -1, 2, 1}, {20, 19, 0, -1, -1}};
        for (int sort = 0; sort < 2; sort++) {
            for (int[] w : want) {
                x.sheet(1, sort, 2);
                x.put(1, 0, w[0]);
                x.put(1, 1, w[1]);
                Model m = new Model();
                m.sheet(1, sort, 2);
                m.put(1, 0, w[0]);
                m.put(1, 1, w[1]);
                for (int what = 0; what < 3; what++) {
                    due("hooks of " + w[0] + " " + w[1] + ", " + what, x.hooks(1, what), m.hooks(1, what));
                }
            }
        }
        // beads 5 0: the 5 becomes 1 by a turn, the sign turns as ROWS are even; 1 0 stand right: -1
        Check.tell(x, 0, 4, 0);
        due("4 0: sign", x.hooks(0, 0), -1);
        due("4 0: turns", x.hooks(0, 1), 1);
        due("4 0: shape", x.hooks(0, 2), 0);
        // beads 4 1: the 4 becomes 0; 0 1 stand the wrong way round: 1
        Check.tell(x, 0, 3, 1);
        due("3 1: sign", x.hooks(0, 0), 1);
        due("3 1: turns", x.hooks(0, 1), 1);
        due("3 1: shape", x.hooks(0, 2), 0);
        // beads 4 0: alike
        Check.tell(x, 0, 3, 0);
        due("3 0: sign", x.hooks(0, 0), 0);
        due("3 0: turns", x.hooks(0, 1), -1);
        due("3 0: shape", x.hooks(0, 2), -1);
        // of three rows a turn leaves the sign; beads 7 2 0, ROUND 5: 2 2 0
        x.box(3, 5);
        Check.tell(x, 0, 5, 1, 0);
        due("5 1 0: sign", x.hooks(0, 0), 0);
        // beads 6 2 0: 1 2 0, one wrong way round
        Check.tell(x, 0, 4, 1, 0);
        due("4 1 0: sign", x.hooks(0, 0), -1);
        due("4 1 0: turns", x.hooks(0, 1), 1);
        due("4 1 0: shape", x.hooks(0, 2), 0);
        // beads 22 21 20: 2 1 0
        Check.tell(x, 0, 20, 20, 20);
        due("20 20 20: sign", x.hooks(0, 0), 1);
        due("20 20 20: turns", x.hooks(0, 1), 12);
        due("20 20 20: shape", x.hooks(0, 2), 0);
        due("no such what", x.hooks(0, 3), -1000);
        due("no such what", x.hooks(0, -1), -1000);
        due("no such sheet", x.hooks(4, 0), -1000);
        due("no such sheet", x.hooks(-1, 0), -1000);
        due("no such what of a missing sheet", x.hooks(3, 3), -1000);
        due("missing", x.hooks(3, 0), -1011);
        int[][] off = {{1, 1}, {1, 1, 1, 1}, {21, 0, 0}, {0, 0, -1}, {1, 2, 0}, {2, 1, 2}, {}, {-1, -1, -1},
            {Integer.MAX_VALUE, 1, 0}, {1, 0, Integer.MIN_VALUE}};
        for (int[] o : off) {
            Check.tell(x, 2, o);
            due("hooks of off rows", x.hooks(2, 0), -1000);
        }
    }

    /** Promise 11. */
    private static void roots() {
        HookBoxes x = new HookBoxes();
        due("roots(1, 1, 2)", x.roots(1, 1, 2), 1);
        due("roots(1, 1, 1)", x.roots(1, 1, 1), 0);
        due("roots(5, 5, 0)", x.roots(5, 5, 0), 1);
        int[][] bad = {{6, 0, 0}, {-1, 0, 0}, {0, 6, 0}, {0, -1, 0}, {0, 0, 6}, {0, 0, -1}};
        for (int[] b : bad) {
            due("roots of bad", x.roots(b[0], b[1], b[2]), -2);
        }
        x.box(3, 6);
        int i = x.number(21);
        due("roots([21], [21], [321])", x.roots(i, i, x.number(321)), 2);
    }

    /** Promise 12. */
    private static void rootsOf() {
        HookBoxes x = new HookBoxes();
        Check.tell(x, 0);
        due("of none: []", x.rootsOf(0, 0), 1);
        due("of none: [1]", x.rootsOf(0, 1), 0);
        Check.tell(x, 0, 1, 1, 1, 1);
        due("[1] four times: [22]", x.rootsOf(0, 5), 2);
        due("[1] four times: []", x.rootsOf(0, 0), 2);
        x.sheet(1, 0, 1);
        x.put(1, 0, 4);
        due("a sheet of shorts", x.rootsOf(1, 4), 1);
        // [1] to the 8th in Gr(2, 4): 8 q[2][2].. : all 8 told
        Check.tell(x, 0, 1, 1, 1, 1, 1, 1, 1, 1);
        due("[1] eight times: []", x.rootsOf(0, 0), 8);
        Check.tell(x, 0, 1, 1, 1, 1, 1, 1, 1, 1, 1);
        due("nine", x.rootsOf(0, 0), -2);
        Check.tell(x, 0, 1, 6);
        due("no shape", x.rootsOf(0, 0), -3);
        Check.tell(x, 0, 1, 1, 4);
        due("three", x.rootsOf(0, 5), x.times(2, 4, 5, 0) + x.times(3, 4, 5, 0));
        due("two behind three", x.roots(1, 1, 2), 1);
        Check.tell(x, 0, -1);
        due("no shape", x.rootsOf(0, 0), -3);
        Check.tell(x, 0, 6, 6, 6, 6, 6, 6, 6, 6, 6);
        due("nine that are no shapes", x.rootsOf(0, 0), -2);
        due("no such sheet", x.rootsOf(4, 0), -2);
        due("no such sheet", x.rootsOf(-1, 0), -2);
        due("no such l", x.rootsOf(0, 6), -2);
        due("no such l of a missing sheet", x.rootsOf(3, -1), -2);
        due("missing", x.rootsOf(3, 0), -11);
        x.box(3, 7);
        Model m = new Model();
        m.box(3, 7);
        m.sheet(0, 1, 8);
        int[] great = {16, 18, 13, 18, 22, 16, 18, 20};
        Check.tell(x, 0, great);
        for (int t = 0; t < 8; t++) {
            m.put(0, t, great[t]);
        }
        for (int l = 0; l < 35; l++) {
            due("eight great ones, modulo 2521: " + l, x.rootsOf(0, l), m.rootsOf(0, l));
        }
    }

    /** A fresh object for each few rows of calls, as the document promises 512 calls alone. */
    private static void everyProduct(int rows, int round) {
        String at = "box " + rows + " " + round + ": ";
        Model m = new Model();
        m.box(rows, round);
        int shapes = m.count(0);
        for (int i = 0; i < shapes; i++) {
            HookBoxes x = null;
            for (int j = 0; j < shapes; j++) {
                if (j % 3 == 0) {
                    x = new HookBoxes();
                    x.box(rows, round);
                }
                for (int what = 0; what < 4; what++) {
                    due(at + "turns(" + i + ", " + j + ", " + what + ")", x.turns(i, j, what), m.turns(i, j, what));
                }
                for (int l = 0; l < shapes; l++) {
                    String call = "(" + i + ", " + j + ", " + l;
                    due(at + "times" + call + ", 0)", x.times(i, j, l, 0), m.times(i, j, l, 0));
                    due(at + "times" + call + ", 1)", x.times(i, j, l, 1), m.times(i, j, l, 1));
                    due(at + "roots" + call + ")", x.roots(i, j, l), m.roots(i, j, l));
                }
            }
            x = new HookBoxes();
            x.box(rows, round);
            for (int l = 0; l < shapes; l++) {
                for (int d = 0; d < 5; d++) {
                    due(at + "around(" + l + ", " + i + ", " + d + ", 0)", x.around(l, i, d, 0), m.around(l, i, d, 0));
                    due(at + "around(" + l + ", " + i + ", " + d + ", 1)", x.around(l, i, d, 1), m.around(l, i, d, 1));
                }
            }
        }
    }

    private static void everyHook(int rows, int round) {
        HookBoxes x = new HookBoxes();
        x.box(rows, round);
        Model m = new Model();
        m.box(rows, round);
        int[] told = new int[rows];
        for (int code = 0; code < 40; code++) {
            int last = 20;
            for (int r = 0; r < rows; r++) {
                last = Math.max(0, last - (code * (r + 3) + code / 7) % 8);
                told[r] = last;
            }
            m.sheet(0, 1, rows);
            for (int r = 0; r < rows; r++) {
                m.put(0, r, told[r]);
            }
            Check.tell(x, 0, told);
            for (int what = 0; what < 3; what++) {
                due("box " + rows + " " + round + ": hooks of " + java.util.Arrays.toString(told) + ", " + what,
                    x.hooks(0, what), m.hooks(0, what));
            }
        }
    }
}
