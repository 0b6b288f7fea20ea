public final class Example {
    public static void main(String[] args) {
        HookBoxes x = new HookBoxes();
        show("shapes of 2 rows, round 4", x.count(0));
        show("shapes of 3 rows, round 6", x.box(3, 6));

        int i = x.number(21);
        show("the shape of rows 2, 1", i);
        show("its size", x.of(i, 0));
        show("its dual, by its first row", x.row(x.of(i, 4), 0));

        int l = x.number(321);
        show("[321] in [21] times [21]", x.times(i, i, l, 0));
        show("the same by roots, modulo 2521", x.roots(i, i, l));
        show("the most turns in [21] times [21]", x.turns(i, i, 1));

        show("coefficients of 2*[21]*[21]-q", read(x, "2*[21]*[21]-q"));
        show("that of no turns, [321]", x.term(0, l));
        show("that of 1 turn, []", x.term(1, 0));
        show("times [1]", x.multiply(x.number(1)));
        show("a fault at place 4", read(x, "[1]+"));
        show("spent", read(x, "9999*9999"));

        x.sheet(0, 1, 3);
        x.put(0, 0, 5);
        x.put(0, 1, 2);
        show("rows 5, 2, 0 taken round: the sign", x.hooks(0, 0));
        show("the turns", x.hooks(0, 1));
        show("the shape", x.hooks(0, 2));

        x.image();
        show("another box", x.box(4, 7));
        show("back", x.back());
        show("the sum is back, too", x.count(3));
        show("turns of a walk of 40", x.drawn(7, 40, 1));
        show("no such shape", x.row(20, 0));
    }

    /** A text comes onto the tape, five bytes at a time at most, and is read. */
    static int read(HookBoxes x, String text) {
        for (int at = 0; at < text.length(); at += 5) {
            int n = Math.min(5, text.length() - at);
            int[] b = new int[5];
            for (int k = 0; k < n; k++) {
                b[k] = text.charAt(at + k);
            }
            x.feed(n, b[0], b[1], b[2], b[3], b[4]);
        }
        return x.read();
    }

    static void show(String what, long answer) {
        System.out.println(what + ": " + answer);
    }
}
