/** Promises 1 to 6. */
public final class ShapesTest {
    private static final Check CHECK = new Check("ShapesTest");

    public static void main(String[] args) {
        newObject();
        boxes();
        rows();
        numbers();
        ofShapes();
        kinds();
        everyBox();
        CHECK.end();
    }

    private static void due(String call, long got, long want) {
        CHECK.due(call, got, want);
    }

    /** Promise 1. */
    private static void newObject() {
        HookBoxes x = new HookBoxes();
        int[] want = {6, 2, 4, 0, 0, 0};
        for (int what = 0; what < 6; what++) {
            due("new: count(" + what + ")", x.count(what), want[what]);
        }
        for (int d = 0; d < 8; d++) {
            for (int l = 0; l < 6; l++) {
                due("new: term(" + d + ", " + l + ")", x.term(d, l), 0);
            }
        }
        for (int s = 0; s < 4; s++) {
            due("new: put(" + s + ", 0, 0)", x.put(s, 0, 0), -11);
        }
        due("new: back()", x.back(), -3);
        due("new: read()", x.read(), -100);
    }

    /** Promise 2. */
    private static void boxes() {
        HookBoxes x = new HookBoxes();
        int[][] many = {{1, 2, 2}, {1, 7, 7}, {2, 3, 3}, {2, 4, 6}, {2, 7, 21}, {3, 4, 4}, {3, 6, 20}, {3, 7, 35},
            {4, 5, 5}, {4, 6, 15}, {4, 7, 35}};
        for (int[] b : many) {
            Check.read(x, "3+q");
            due("count(3)", x.count(3), 2);
            due("box(" + b[0] + ", " + b[1] + ")", x.box(b[0], b[1]), b[2]);
            due("count(0)", x.count(0), b[2]);
            due("count(1)", x.count(1), b[0]);
            due("count(2)", x.count(2), b[1]);
            due("count(3): the sum is all 0", x.count(3), 0);
        }
        Check.read(x, "3+q");
        int[][] bad = {{0, 4}, {-1, 4}, {5, 7}, {5, 6}, {4, 4}, {4, 8}, {1, 1}, {1, 0}, {1, 8}, {2, 2}, {3, 3}, {2, -4},
            {Integer.MAX_VALUE, Integer.MIN_VALUE}, {Integer.MIN_VALUE, 3}, {2, Integer.MAX_VALUE}};
        for (int[] b : bad) {
            due("box(" + b[0] + ", " + b[1] + ")", x.box(b[0], b[1]), -2);
        }
        due("after BAD: count(0)", x.count(0), 35);
        due("after BAD: count(1)", x.count(1), 4);
        due("after BAD: count(3)", x.count(3), 2);
        Check.feed(x, "12");
        due("the same one", x.box(4, 7), 35);
        due("the same one: the sum is all 0", x.count(3), 0);
        due("the tape stays", x.count(4), 2);
        due("the parts stay", x.count(5), 3);
    }

    /** Promise 3. */
    private static void rows() {
        HookBoxes x = new HookBoxes();
        x.box(3, 6);
        int[] want = {0, 100, 200, 110, 300, 210, 111, 310, 220, 211, 320, 311, 221, 330, 321, 222, 331, 322, 332, 333};
        for (int i = 0; i < want.length; i++) {
            due("row(" + i + ", 0)", x.row(i, 0), want[i] / 100);
            due("row(" + i + ", 1)", x.row(i, 1), want[i] / 10 % 10);
            due("row(" + i + ", 2)", x.row(i, 2), want[i] % 10);
        }
        int[][] bad = {{20, 0}, {-1, 0}, {0, 3}, {0, -1}, {Integer.MAX_VALUE, 0}, {0, Integer.MIN_VALUE}};
        for (int[] b : bad) {
            due("row(" + b[0] + ", " + b[1] + ")", x.row(b[0], b[1]), -2);
        }
    }

    /** Promise 4. */
    private static void numbers() {
        HookBoxes x = new HookBoxes();
        x.box(3, 6);
        int[][] want = {{0, 0}, {1, 1}, {2, 2}, {3, 4}, {4, -1}, {11, 3}, {21, 5}, {33, 13}, {333, 19}, {332, 18}, {321, 14},
            {12, -1}, {123, -1}, {13, -1}, {113, -1}, {133, -1}, {313, -1}, {10, -1}, {100, -1}, {201, -1}, {210, -1}, {1111, -1}, {43, -1}, {99, -1}, {-1, -2},
            {Integer.MAX_VALUE, -1}, {1111111111, -1}, {Integer.MIN_VALUE, -2}};
        for (int[] w : want) {
            due("number(" + w[0] + ")", x.number(w[0]), w[1]);
        }
        x.box(4, 7);
        due("number(1111)", x.number(1111), 10);
        due("row of number(1111)", x.row(x.number(1111), 3), 1);
        due("number(3333)", x.number(3333), 34);
        due("number(11111)", x.number(11111), -1);
        x.box(1, 7);
        due("number(6)", x.number(6), 6);
        due("number(7)", x.number(7), -1);
        due("number(11)", x.number(11), -1);
    }

    /** Promise 5. */
    private static void ofShapes() {
        HookBoxes x = new HookBoxes();
        int[][] want = {{0, 0, 0, 3, 5, 3, 3}, {1, 1, 1, 5, 4, 4, 5}, {2, 1, 1, 9, 2, 0, 6}, {2, 2, 2, 6, 3, 5, 9},
            {3, 2, 4, 10, 1, 1, 10}, {4, 2, 3, 12, 0, 2, 12}};
        for (int i = 0; i < 6; i++) {
            for (int what = 0; what < 7; what++) {
                due("of(" + i + ", " + what + ")", x.of(i, what), want[i][what]);
            }
        }
        x.box(3, 7);
        int hook = x.number(311);
        // beads 5 2 1, rolled 6 3 2
        int[] wantHook = {5, 3, 4, 0b100110, x.number(331), x.number(422), 0b1001101};
        for (int what = 0; what < 7; what++) {
            due("of([311], " + what + ")", x.of(hook, what), wantHook[what]);
        }
        int[][] bad = {{35, 0}, {-1, 0}, {0, 7}, {0, -1}, {Integer.MIN_VALUE, 3}, {0, Integer.MAX_VALUE}};
        for (int[] b : bad) {
            due("of(" + b[0] + ", " + b[1] + ")", x.of(b[0], b[1]), -2);
        }
    }

    /** Promise 6. */
    private static void kinds() {
        HookBoxes x = new HookBoxes();
        x.box(3, 6);
        // [] | 1 2 3 | 11 111 | 22 33 222 333 | 21 31 211 311 | 32 .. : 220 330 are blocks
        int[] want = {1, 3, 2, 4, 4, 6};
        for (int kind = 0; kind < 6; kind++) {
            due("kinds(" + kind + ")", x.kinds(kind), want[kind]);
        }
        due("kinds(6)", x.kinds(6), -2);
        due("kinds(-1)", x.kinds(-1), -2);
        x.box(1, 5);
        due("one row: kinds(0)", x.kinds(0), 1);
        due("one row: kinds(1)", x.kinds(1), 4);
        due("one row: kinds(2)", x.kinds(2), 0);
        x.box(4, 5);
        due("width 1: kinds(1)", x.kinds(1), 1);
        due("width 1: kinds(2)", x.kinds(2), 3);
        due("width 1: kinds(3)", x.kinds(3), 0);
    }

    /** All shapes of all boxes: the order, the words, the duals, the rolled ones against the model. */
    private static void everyBox() {
        HookBoxes x = new HookBoxes();
        Model m = new Model();
        for (int rows = 1; rows <= 4; rows++) {
            for (int round = rows + 1; round <= 7; round++) {
                String at = "box " + rows + " " + round + ": ";
                due(at + "box", x.box(rows, round), m.box(rows, round));
                for (int i = 0; i < m.count(0); i++) {
                    // an object promises 512 calls alone
                    x = new HookBoxes();
                    x.box(rows, round);
                    int digits = 0;
                    for (int r = 0; r < rows; r++) {
                        due(at + "row(" + i + ", " + r + ")", x.row(i, r), m.row(i, r));
                        digits = x.row(i, r) == 0 ? digits : digits * 10 + x.row(i, r);
                    }
                    due(at + "number(" + digits + ")", x.number(digits), i);
                    for (int what = 0; what < 7; what++) {
                        due(at + "of(" + i + ", " + what + ")", x.of(i, what), m.of(i, what));
                    }
                    due(at + "dual of dual", x.of(x.of(i, 4), 4), i);
                }
                for (int kind = 0; kind < 6; kind++) {
                    due(at + "kinds(" + kind + ")", x.kinds(kind), m.kinds(kind));
                }
            }
        }
    }
}
