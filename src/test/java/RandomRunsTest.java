import java.util.Random;

/** Long runs of calls by lot, each answer against the model's. */
public final class RandomRunsTest {
    private static final int RUNS = 1500, CALLS = 512;
    private final Check check = new Check("RandomRunsTest");
    private final Random lot;
    private final HookBoxes x = new HookBoxes();
    private final Model m = new Model();
    private final int run;

    private RandomRunsTest(int run) {
        this.run = run;
        lot = new Random(run * 7919L + 1);
    }

    public static void main(String[] args) {
        boolean clean = true;
        long asked = 0;
        for (int run = 0; run < RUNS && clean; run++) {
            RandomRunsTest one = new RandomRunsTest(run);
            for (int call = 0; call < CALLS && one.check.clean(); call++) {
                one.call();
                asked++;
            }
            clean = one.check.clean();
        }
        System.out.println("RandomRunsTest: " + asked + " calls, " + (clean ? "all as due" : "NOT all as due"));
        if (!clean) {
            System.exit(1);
        }
    }

    private void due(String call, long got, long want) {
        check.due("run " + run + ": " + call, got, want);
    }

    /** Mostly least .. most, seldom just outside, seldom far outside. */
    private int some(int least, int most) {
        int kind = lot.nextInt(60);
        if (kind == 0) {
            return lot.nextBoolean() ? least - 1 : most + 1;
        }
        if (kind == 1) {
            int[] far = {Integer.MIN_VALUE, Integer.MAX_VALUE, -1, 100, 65536 + least};
            return far[lot.nextInt(far.length)];
        }
        return least + lot.nextInt(Math.max(1, most - least + 1));
    }

    private int shape() {
        return some(0, x.count(0) - 1);
    }

    private int sheet() {
        return some(0, 3);
    }

    private void call() {
        switch (lot.nextInt(12)) {
            case 0: shapes(); break;
            case 1: case 2: products(); break;
            case 3: case 4: case 5: texts(); break;
            case 6: lots(); break;
            case 7: case 8: host(); break;
            case 9: toldRows(); break;
            default: sums(); break;
        }
    }

    private void shapes() {
        int i = shape();
        int r = some(0, 3);
        switch (lot.nextInt(12)) {
            case 0: {
                int rows = some(1, 4);
                int round = some(rows + 1, 7);
                due("box(" + rows + ", " + round + ")", x.box(rows, round), m.box(rows, round));
                break;
            }
            case 1: case 2: due("row(" + i + ", " + r + ")", x.row(i, r), m.row(i, r)); break;
            case 3: case 4: case 5: {
                int digits = lot.nextInt(4) == 0 ? some(0, 99999) : 0;
                for (int r2 = 0, last = 6; r2 < 4 && digits < 1000; r2++) {
                    last = lot.nextInt(last + 1);
                    digits = digits * 10 + last;
                }
                due("number(" + digits + ")", x.number(digits), m.number(digits));
                break;
            }
            case 6: case 7: {
                int kind = some(0, 5);
                due("kinds(" + kind + ")", x.kinds(kind), m.kinds(kind));
                break;
            }
            default: {
                int what = some(0, 6);
                due("of(" + i + ", " + what + ")", x.of(i, what), m.of(i, what));
            }
        }
    }

    private void products() {
        int i = shape();
        int j = shape();
        int l = shape();
        int d = some(0, lot.nextInt(3) == 0 ? 7 : 2);
        int two = some(0, 1);
        int four = some(0, 3);
        switch (lot.nextInt(4)) {
            case 0: due("times(" + i + ", " + j + ", " + l + ", " + two + ")", x.times(i, j, l, two), m.times(i, j, l, two)); break;
            case 1: due("turns(" + i + ", " + j + ", " + four + ")", x.turns(i, j, four), m.turns(i, j, four)); break;
            case 2: due("around(" + l + ", " + i + ", " + d + ", " + two + ")", x.around(l, i, d, two), m.around(l, i, d, two)); break;
            default: due("roots(" + i + ", " + j + ", " + l + ")", x.roots(i, j, l), m.roots(i, j, l)); break;
        }
    }

    private String ones(int depth) {
        switch (lot.nextInt(depth < 5 ? 5 : 4)) {
            case 0: return String.valueOf(lot.nextInt(lot.nextInt(5) == 0 ? 10000 : 4));
            case 1: return "q";
            case 2: case 3: {
                StringBuilder s = new StringBuilder("[");
                int last = Math.max(1, x.count(2) - x.count(1));
                for (int r = lot.nextInt(x.count(1) + 1); r > 0; r--) {
                    last = 1 + lot.nextInt(last);
                    s.append(lot.nextInt(80) == 0 ? lot.nextInt(10) : last);
                }
                return s.append("]").toString();
            }
            default: {
                StringBuilder s = new StringBuilder("(").append(ones(depth + 1));
                for (int n = lot.nextInt(3); n > 0; n--) {
                    s.append("*+-".charAt(lot.nextInt(3))).append(ones(depth + 1));
                }
                return s.append(")").toString();
            }
        }
    }

    private void texts() {
        StringBuilder text = new StringBuilder(ones(0));
        int parts = lot.nextInt(12);
        while (parts > 0) {
            text.append("**+-".charAt(lot.nextInt(4))).append(ones(0));
            parts--;
        }
        if (lot.nextInt(6) == 0) {
            String odd = "0123456789[]()*+-q \u0000\u00ff";
            text.setCharAt(lot.nextInt(text.length()), odd.charAt(lot.nextInt(odd.length())));
        }
        if (lot.nextInt(12) == 0) {
            text.setLength(lot.nextInt(text.length()));
        }
        if (lot.nextInt(3) > 0 && text.length() > 60) {
            text.setLength(60);
        }
        for (int k = 0; k < text.length(); ) {
            int n = Math.min(1 + lot.nextInt(5), text.length() - k);
            n = lot.nextInt(100) == 0 ? some(1, 5) : n;
            int[] b = new int[5];
            for (int t = 0; t < 5; t++) {
                b[t] = k + t < text.length() ? text.charAt(k + t) : lot.nextInt(256);
            }
            if (lot.nextInt(200) == 0) {
                b[lot.nextInt(5)] = lot.nextBoolean() ? -1 : 256;
            }
            due("feed", x.feed(n, b[0], b[1], b[2], b[3], b[4]), m.feed(n, b));
            k += Math.max(1, Math.min(n, 5));
        }
        due("read() of " + text, x.read(), m.read());
        due("count(5) of " + text, x.count(5), m.count(5));
        terms();
    }

    private void terms() {
        for (int d = 0; d < 8; d++) {
            for (int l = 0; l < x.count(0); l++) {
                due("term(" + d + ", " + l + ")", x.term(d, l), m.term(d, l));
            }
        }
    }

    private void sums() {
        int d = some(0, 7);
        int l = shape();
        switch (lot.nextInt(8)) {
            case 0: case 1: due("term(" + d + ", " + l + ")", x.term(d, l), m.term(d, l)); break;
            case 2: {
                int by = lot.nextBoolean() ? lot.nextInt() : some(-2, 4000);
                due("scaled(" + d + ", " + l + ", " + by + ")", x.scaled(d, l, by), m.scaled(d, l, by));
                break;
            }
            case 3: case 4: {
                due("multiply(" + l + ")", x.multiply(l), m.multiply(l));
                terms();
                break;
            }
            case 5: due("image()", x.image(), m.image()); break;
            case 6: due("back()", x.back(), m.back()); break;
            default: {
                int what = some(0, 5);
                due("count(" + what + ")", x.count(what), m.count(what));
            }
        }
    }

    private void lots() {
        int seed = lot.nextBoolean() ? lot.nextInt() : some(0, 100);
        int n = some(0, 40);
        int two = some(0, 1);
        int s = sheet();
        int i = shape();
        int j = shape();
        switch (lot.nextInt(4)) {
            case 0: due("drawn(" + seed + ", " + n + ")", x.drawn(seed, n, two), m.drawn(seed, n, two)); break;
            case 1: {
                int many = some(1, 20);
                int d = some(0, n);
                due("chance(" + seed + ", " + many + ", " + n + ", " + d + ", " + two + ")",
                    x.chance(seed, many, n, d, two), m.chance(seed, many, n, d, two));
                break;
            }
            case 2: due("film(" + s + ", " + i + ", " + j + ")", x.film(s, i, j), m.film(s, i, j)); break;
            default: {
                if (lot.nextBoolean()) {
                    int at = some(0, 36);
                    int v = some(0, 2);
                    due("put", x.put(s, at, v), m.put(s, at, v));
                }
                due("tells(" + s + ", " + i + ", " + j + ")", x.tells(s, i, j), m.tells(s, i, j));
            }
        }
    }

    private void host() {
        int s = sheet();
        int o = sheet();
        int i = some(0, 10);
        int j = some(0, 10);
        int n = some(0, lot.nextInt(4) == 0 ? 40 : 12);
        switch (lot.nextInt(6)) {
            case 0: {
                int sort = some(-1, 1);
                int size = lot.nextInt(4) == 0 ? some(0, 40) : some(0, 12);
                due("sheet(" + s + ", " + sort + ", " + size + ")", x.sheet(s, sort, size), m.sheet(s, sort, size));
                break;
            }
            case 1: case 2: {
                int v = lot.nextInt(3) == 0 ? lot.nextInt() : some(-1000000, 1000000);
                due("put(" + s + ", " + i + ", " + v + ")", x.put(s, i, v), m.put(s, i, v));
                break;
            }
            case 3: {
                int sort = some(0, 1);
                due("load(" + s + ", " + sort + ", " + i + ", " + n + ")", x.load(s, sort, i, n), m.load(s, sort, i, n));
                terms();
                break;
            }
            default: due("copy(" + s + ", " + i + ", " + o + ", " + j + ", " + n + ")",
                x.copy(s, i, o, j, n), m.copy(s, i, o, j, n));
        }
    }

    private void toldRows() {
        int s = sheet();
        int sort = lot.nextInt(2);
        boolean rows = lot.nextBoolean();
        int many = rows ? x.count(1) + (lot.nextInt(10) == 0 ? 1 : 0) : some(0, 9);
        due("sheet", x.sheet(s, sort, many), m.sheet(s, sort, many));
        int last = 20;
        for (int t = 0; t < many && t < 40; t++) {
            int v = rows ? lot.nextInt(last + 1) : shape();
            last = Math.max(v, 0);
            v = rows && lot.nextInt(30) == 0 ? some(0, 20) : v;
            due("put", x.put(s, t, v), m.put(s, t, v));
        }
        int l = shape();
        if (rows) {
            for (int what = -1; what < 4; what++) {
                due("hooks(" + s + ", " + what + ")", x.hooks(s, what), m.hooks(s, what));
            }
        }
        due("rootsOf(" + s + ", " + l + ")", x.rootsOf(s, l), m.rootsOf(s, l));
    }
}
