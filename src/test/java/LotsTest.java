/** Promises 18 to 21. */
public final class LotsTest {
    private static final Check CHECK = new Check("LotsTest");

    public static void main(String[] args) {
        drawn();
        chance();
        tells();
        film();
        CHECK.end();
    }

    private static void due(String call, long got, long want) {
        CHECK.due(call, got, want);
    }

    /** Promise 18. */
    private static void drawn() {
        HookBoxes x = new HookBoxes();
        // 12345 >>> 9 is 24, by 6 SHAPES 0: one stays on []; the next ones by the document's words
        due("drawn(0, 1, 0)", x.drawn(0, 1, 0), 0);
        int z = 0;
        int where = 0;
        int taken = 0;
        for (int n = 1; n <= 40; n++) {
            z = z * 1103515245 + 12345;
            int j = (z >>> 9) % 6;
            int next = 0;
            while (x.times(where, j, next, 0) == 0) {
                next++;
            }
            taken += x.times(where, j, next, 1);
            where = next;
            HookBoxes y = new HookBoxes();
            due("drawn(0, " + n + ", 0)", y.drawn(0, n, 0), where);
            due("drawn(0, " + n + ", 1)", y.drawn(0, n, 1), taken);
        }
        Check.read(x, "3");
        due("drawn(5, 0, 0)", x.drawn(5, 0, 0), 0);
        due("drawn(5, 0, 1)", x.drawn(5, 0, 1), 0);
        due("the same again", x.drawn(123456, 40, 0) * 100 + x.drawn(123456, 40, 1),
            new HookBoxes().drawn(123456, 40, 0) * 100 + new HookBoxes().drawn(123456, 40, 1));
        int[][] bad = {{-1, 0}, {41, 0}, {0, 2}, {0, -1}, {Integer.MAX_VALUE, 0}, {Integer.MIN_VALUE, 1}};
        for (int[] b : bad) {
            due("drawn(1, " + b[0] + ", " + b[1] + ")", x.drawn(1, b[0], b[1]), -2);
        }
        due("nothing changes", x.term(0, 0), 3);
        seeds();
    }

    private static void seeds() {
        int[] seeds = {0, 1, -1, Integer.MAX_VALUE, Integer.MIN_VALUE, 77, 1 << 30, -987654321};
        for (int rows = 1; rows <= 4; rows++) {
            for (int round = rows + 1; round <= 7; round++) {
                HookBoxes x = new HookBoxes();
                Model m = new Model();
                x.box(rows, round);
                m.box(rows, round);
                for (int seed : seeds) {
                    for (int what = 0; what < 2; what++) {
                        due("box " + rows + " " + round + ": drawn(" + seed + ")", x.drawn(seed, 40, what), m.drawn(seed, 40, what));
                        due("box " + rows + " " + round + ": chance(" + seed + ")",
                            x.chance(seed, 20, 12, 4, what), m.chance(seed, 20, 12, 4, what));
                    }
                }
            }
        }
    }

    /** Promise 19. */
    private static void chance() {
        HookBoxes x = new HookBoxes();
        for (int m = 1; m <= 20; m++) {
            for (int d = 0; d < 14; d += 3) {
                int above = 0;
                for (int s = 0; s < m; s++) {
                    above += new HookBoxes().drawn(Integer.MAX_VALUE - 3 + s, 15, 1) >= d ? 1 : 0;
                }
                int a = x.chance(Integer.MAX_VALUE - 3, m, 15, d, 0);
                int b = x.chance(Integer.MAX_VALUE - 3, m, 15, d, 1);
                due("the chance in " + m + " for " + d, (long) a * m, (long) above * b);
                CHECK.holds("lowest terms: " + a + " by " + b, b >= 1 && noDivisor(a, b));
            }
        }
        due("0 turns: all", x.chance(9, 7, 5, 0, 0), 1);
        due("0 turns: all", x.chance(9, 7, 5, 0, 1), 1);
        due("none", x.chance(9, 7, 5, Integer.MAX_VALUE, 0), 0);
        due("none by 1", x.chance(9, 7, 5, Integer.MAX_VALUE, 1), 1);
        due("no step", x.chance(9, 20, 0, 1, 0), 0);
        due("no step, by 1", x.chance(9, 20, 0, 1, 1), 1);
        int[][] bad = {{0, 5, 1, 0}, {21, 5, 1, 0}, {-1, 5, 1, 0}, {5, -1, 1, 0}, {5, 41, 1, 0}, {5, 5, -1, 0}, {5, 5, 1, 2},
            {5, 5, 1, -1}, {Integer.MAX_VALUE, 5, 1, 0}, {5, 5, Integer.MIN_VALUE, 0}};
        for (int[] b : bad) {
            due("chance of bad", x.chance(1, b[0], b[1], b[2], b[3]), -2);
        }
        due("20 seeds, 40 steps", x.chance(1, 20, 40, 0, 1), 1);
    }

    private static boolean noDivisor(int a, int b) {
        for (int t = 2; t <= b; t++) {
            if (a % t == 0 && b % t == 0) {
                return false;
            }
        }
        return true;
    }

    /** Promise 20: [1][1] tells 0 0 1 1 0 0. */
    private static void tells() {
        HookBoxes x = new HookBoxes();
        Check.tell(x, 0, 0, 0, 1, 1, 0, 0);
        due("all", x.tells(0, 1, 1), -1);
        Check.tell(x, 0, 0, 0, 1);
        due("fewer", x.tells(0, 1, 1), -1);
        Check.tell(x, 0);
        due("none", x.tells(0, 1, 1), -1);
        Check.tell(x, 0, 0, 0, 1, 2, 0, 1);
        due("the first that is otherwise", x.tells(0, 1, 1), 3);
        Check.tell(x, 0, 5, 0, 1, 2, 0, 1);
        due("the first of all", x.tells(0, 1, 1), 0);
        Check.tell(x, 0, 0, 0, 1, 1, 0, 0, 0);
        due("one that is no shape", x.tells(0, 1, 1), 6);
        Check.tell(x, 0, 0, 0, 1, 1, 0, 0, 7, 8);
        due("more that are no shapes", x.tells(0, 1, 1), 6);
        Check.tell(x, 0, 0, 0, 1 + 65536);
        due("an int of which the lowest bits are right", x.tells(0, 1, 1), 2);
        x.sheet(1, 0, 3);
        x.put(1, 2, 1);
        due("a sheet of shorts", x.tells(1, 1, 1), -1);
        int[][] bad = {{4, 1, 1}, {-1, 1, 1}, {0, 6, 1}, {0, -1, 1}, {0, 1, 6}, {0, 1, -1}, {3, 6, 1}, {3, 1, 6}};
        for (int[] b : bad) {
            due("tells of bad", x.tells(b[0], b[1], b[2]), -2);
        }
        due("missing", x.tells(3, 1, 1), -11);
    }

    /** Promise 21. */
    private static void film() {
        HookBoxes x = new HookBoxes();
        due("film(2, 1, 1)", x.film(2, 1, 1), 6);
        due("it tells it", x.tells(2, 1, 1), -1);
        due("it has 6", x.put(2, 6, 0), -12);
        due("it has 6", x.put(2, 5, 0), 1);
        due("it is of shorts", x.load(2, 1, 0, 0), -13);
        due("load", x.load(2, 0, 0, 6), 6);
        for (int l = 0; l < 6; l++) {
            due("term(0, " + l + ")", x.term(0, l), l == 2 || l == 3 ? 1 : 0);
        }
        x.sheet(2, 1, 40);
        x.put(2, 0, 9);
        due("a sheet of ints, more of them", x.film(2, 4, 4), 6);
        due("it tells it", x.tells(2, 4, 4), -1);
        due("it has 6", x.put(2, 6, 0), -12);
        x.box(3, 7);
        due("film(2, 0, 0)", x.film(2, 0, 0), 35);
        due("it tells [] once", x.load(2, 0, 0, 1) + x.term(0, 0), 2);
        due("film(2, 16, 18)", x.film(2, 16, 18), 35);
        due("it tells it", x.tells(2, 16, 18), -1);
        due("it has 35", x.put(2, 34, 0), 1);
        due("it has 35", x.put(2, 35, 0), -12);
        int[][] bad = {{4, 1, 1}, {-1, 1, 1}, {3, 35, 1}, {3, -1, 1}, {3, 1, 35}, {3, 1, -1}};
        for (int[] b : bad) {
            due("film of bad", x.film(b[0], b[1], b[2]), -2);
        }
        due("it is missing still", x.put(3, 0, 0), -11);
    }
}
