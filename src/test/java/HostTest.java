/** Promises 22 to 28. */
public final class HostTest {
    private static final Check CHECK = new Check("HostTest");
    private static final int LEAST = Integer.MIN_VALUE, GREATEST = Integer.MAX_VALUE;

    public static void main(String[] args) {
        image();
        load();
        count();
        sheet();
        put();
        copy();
        CHECK.end();
    }

    private static void due(String call, long got, long want) {
        CHECK.due(call, got, want);
    }

    /** Promises 22 and 23. */
    private static void image() {
        HookBoxes x = new HookBoxes();
        due("none is there", x.back(), -3);
        x.box(3, 7);
        Check.read(x, "5+q*[321]");
        due("image()", x.image(), 35);
        due("image() changes nothing", x.count(3), 2);
        Check.read(x, "1");
        x.box(2, 5);
        Check.read(x, "7*[3]");
        x.sheet(0, 1, 2);
        Check.feed(x, "12");
        for (int again = 0; again < 2; again++) {
            due("back()", x.back(), 35);
            due("count(1)", x.count(1), 3);
            due("count(2)", x.count(2), 7);
            due("count(3)", x.count(3), 2);
            due("term", x.term(0, 0), 5);
            due("term", x.term(1, x.number(321)), 1);
            due("a product of the box that is back", x.times(x.number(222), x.number(222), 0, 0),
                new HookBoxes().box(3, 7) == 35 ? x.roots(x.number(222), x.number(222), 0) : -9);
            due("the tape stays", x.count(4), 2);
            due("the sheets stay", x.put(0, 1, 1), 1);
            due("the parts stay", x.count(5), 2);
            x.multiply(1);
            x.box(4, 5);
        }
        due("another image", x.image(), 5);
        x.box(2, 4);
        due("another image", x.back(), 5);
        due("another image", x.count(3), 0);
    }

    /** Promise 24. */
    private static void load() {
        HookBoxes x = new HookBoxes();
        Check.read(x, "[22]*4+q");
        Check.tell(x, 0, 11, -1000000, 1000000, 1000001, -1000001, 0, 77, 88);
        due("load of all", x.load(0, 1, 0, 8), 4);
        int[] want = {11, -1000000, 1000000, 0, 0, 0};
        for (int l = 0; l < 6; l++) {
            due("term(0, " + l + ")", x.term(0, l), want[l]);
        }
        due("other turns stay", x.term(1, 0), 1);
        due("what is no shape changes nothing", x.count(3), 4);
        due("load(0, 1, 6, 2)", x.load(0, 1, 6, 2), 2);
        due("from one on", x.term(0, 0), 77);
        due("from one on", x.term(0, 1), 88);
        due("what isn't loaded stays", x.term(0, 2), 1000000);
        due("load(0, 1, 5, 4): what stood ahead came", x.load(0, 1, 5, 4), -12);
        due("0", x.term(0, 0), 0);
        due("77", x.term(0, 1), 77);
        due("88", x.term(0, 2), 88);
        due("load(0, 1, 2, 2): one is left out", x.load(0, 1, 2, 2), 1);
        due("1000000", x.term(0, 0), 1000000);
        due("left out, as it was", x.term(0, 1), 77);
        due("a place outside for what is no shape", x.load(0, 1, 0, 9), -12);
        int[] outside = {-1, 8, 9, LEAST, GREATEST};
        for (int from : outside) {
            due("load from " + from, x.load(0, 1, from, 1), -12);
            due("load from " + from + ", n 40", x.load(0, 1, from, 40), -12);
            due("load from " + from + ", n 0", x.load(0, 1, from, 0), 0);
        }
        x.sheet(1, 0, 2);
        x.put(1, 0, 32768);
        due("of shorts", x.load(1, 0, 0, 1), 1);
        due("of shorts", x.term(0, 0), -32768);
        int[][] bad = {{4, 0, 0, 0}, {-1, 0, 0, 0}, {0, 2, 0, 0}, {0, -1, 0, 0}, {0, 1, 0, -1}, {0, 1, 0, 41}, {3, 2, 0, 0},
            {3, 0, 0, 41}, {0, 1, -5, LEAST}};
        for (int[] b : bad) {
            due("load of bad", x.load(b[0], b[1], b[2], b[3]), -2);
        }
        due("missing", x.load(3, 0, 0, 1), -11);
        due("missing", x.load(3, 1, -1, 0), -11);
        due("another sort", x.load(0, 0, 0, 1), -13);
        due("another sort, n 0", x.load(1, 1, 99, 0), -13);
        due("40 of them", x.sheet(2, 0, 40) + x.load(2, 0, 0, 40), 7);
    }

    /** Promise 25. */
    private static void count() {
        HookBoxes x = new HookBoxes();
        x.box(3, 6);
        Check.read(x, "1+q+[1]");
        Check.feed(x, "1234567");
        int[] want = {20, 3, 6, 3, 7, 5};
        for (int what = 0; what < 6; what++) {
            due("count(" + what + ")", x.count(what), want[what]);
        }
        due("count(6)", x.count(6), -2);
        due("count(-1)", x.count(-1), -2);
        due("count(least)", x.count(LEAST), -2);
        due("count(greatest)", x.count(GREATEST), -2);
    }

    /** Promise 26. */
    private static void sheet() {
        HookBoxes x = new HookBoxes();
        for (int s = 0; s < 4; s++) {
            due("sheet(" + s + ", 1, 2)", x.sheet(s, 1, 2), 1);
            due("it has 2", x.put(s, 1, 5), 1);
            due("it has 2", x.put(s, 2, 5), -12);
        }
        due("a new one of the same size", x.sheet(0, 1, 2), 1);
        due("all 0", x.load(0, 1, 0, 2), 2);
        due("all 0", x.term(0, 1), 0);
        due("n 0", x.sheet(0, 0, 0), 1);
        due("n 0", x.put(0, 0, 0), -12);
        due("n 40", x.sheet(0, 0, 40), 1);
        due("n 40", x.put(0, 39, 7), 1);
        due("smaller", x.sheet(0, 0, 3), 1);
        due("greater again", x.sheet(0, 0, 40), 1);
        due("all 0", x.copy(0, 39, 0, 0, 1), 1);
        due("all 0", x.load(0, 0, 0, 1) + x.term(0, 0), 1);
        int[] any = {0, -5, 99, LEAST, GREATEST};
        for (int n : any) {
            due("missing, n " + n, x.sheet(1, -1, n), 1);
            due("missing", x.put(1, 0, 0), -11);
        }
        int[][] bad = {{4, 0, 1}, {-1, 0, 1}, {2, 2, 1}, {2, -2, 1}, {2, 0, 41}, {2, 1, GREATEST}, {4, 0, -1}, {2, 2, -1},
            {4, -1, 0}};
        for (int[] b : bad) {
            due("sheet(" + b[0] + ", " + b[1] + ", " + b[2] + ")", x.sheet(b[0], b[1], b[2]), -2);
        }
        due("below 0", x.sheet(2, 0, -1), -14);
        due("below 0", x.sheet(2, 1, LEAST), -14);
        due("it stays", x.put(2, 1, 1), 1);
    }

    /** Promise 27. */
    private static void put() {
        HookBoxes x = new HookBoxes();
        x.sheet(0, 0, 4);
        x.sheet(1, 1, 4);
        int[] v = {40000, -40000, 65536, 98304};
        int[] lowest = {-25536, 25536, 0, -32768};
        for (int t = 0; t < 4; t++) {
            due("put", x.put(0, t, v[t]), 1);
            due("put", x.put(1, t, v[t]), 1);
        }
        x.load(0, 0, 0, 4);
        for (int t = 0; t < 4; t++) {
            due("lowest 16 bits", x.term(0, t), lowest[t]);
        }
        x.load(1, 1, 0, 4);
        for (int t = 0; t < 4; t++) {
            due("all bits", x.term(0, t), v[t]);
        }
        int[] outside = {-1, 4, LEAST, GREATEST};
        for (int i : outside) {
            due("outside", x.put(0, i, 1), -12);
        }
        due("no such sheet", x.put(4, 0, 1), -2);
        due("no such sheet", x.put(-1, 9, 1), -2);
        due("missing", x.put(2, 0, 1), -11);
        due("missing", x.put(2, -1, 1), -11);
    }

    private static void holds(HookBoxes x, int sheet, int... want) {
        x.load(sheet, 1, 0, want.length);
        for (int t = 0; t < want.length; t++) {
            due("item " + t + " of sheet " + sheet, x.term(0, t), want[t]);
        }
    }

    /** Promise 28. */
    private static void copy() {
        HookBoxes x = new HookBoxes();
        Check.tell(x, 0, 1, 2, 3, 4, 5);
        Check.tell(x, 1, 0, 0, 0);
        due("copy", x.copy(0, 1, 1, 0, 3), 3);
        holds(x, 1, 2, 3, 4);
        due("up on itself", x.copy(0, 0, 0, 1, 4), 4);
        holds(x, 0, 1, 1, 2, 3, 4);
        Check.tell(x, 0, 1, 2, 3, 4, 5);
        due("down on itself", x.copy(0, 1, 0, 0, 4), 4);
        holds(x, 0, 2, 3, 4, 5, 5);
        due("none", x.copy(0, 5, 1, 3, 0), 0);
        int[][] outside = {{-1, 0, 1}, {0, -1, 1}, {5, 0, 1}, {0, 3, 1}, {3, 0, 3}, {0, 1, 3}, {0, 0, 4}, {0, 0, -1}, {6, 0, 0},
            {0, 4, 0}, {-1, 0, 0}, {GREATEST, 0, 1}, {1, 0, GREATEST}, {0, GREATEST, 2}, {LEAST, 0, 1}, {0, 0, LEAST},
            {5, 3, -2}, {GREATEST, GREATEST, GREATEST}};
        for (int[] o : outside) {
            due("copy(0, " + o[0] + ", 1, " + o[1] + ", " + o[2] + ")", x.copy(0, o[0], 1, o[1], o[2]), -12);
        }
        holds(x, 1, 2, 3, 4);
        x.sheet(2, 0, 2);
        due("unlike sorts", x.copy(0, 0, 2, 0, 1), -13);
        due("unlike sorts, outside", x.copy(2, 9, 0, 0, -1), -13);
        due("missing", x.copy(0, 0, 3, 0, 1), -11);
        due("missing", x.copy(3, 0, 0, 0, 1), -11);
        due("both missing", x.copy(3, 0, 3, 0, -1), -11);
        due("no such sheet", x.copy(4, 0, 0, 0, 1), -2);
        due("no such sheet", x.copy(0, 0, 4, 0, 1), -2);
        due("no such sheet", x.copy(3, 0, -1, 0, 1), -2);
        x.sheet(3, 0, 2);
        x.put(3, 1, -7);
        due("of shorts", x.copy(3, 1, 2, 0, 1), 1);
        x.load(2, 0, 0, 1);
        due("of shorts", x.term(0, 0), -7);
    }
}
