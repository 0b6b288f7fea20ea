import java.math.BigInteger;
import java.util.ArrayDeque;
import java.util.ArrayList;
import java.util.Arrays;
import java.util.Comparator;
import java.util.HashMap;
import java.util.List;
import java.util.Map;
import java.util.TreeMap;

/**
 * The document's calls once more, by other ways than the program's: PRODUCTS by the weights of tableaux,
 * BY ROOTS by the PRODUCTS, texts by a state machine and a stack.
 */
final class Model {
    private static final int PRIME = 2521;
    private static final BigInteger MOST = BigInteger.valueOf(1000000);
    private static final Map<String, Boxed> BOXES = new HashMap<>();

    /** A box with all that never changes in it. */
    static final class Boxed {
        final int rows;
        final int round;
        final List<int[]> shapes = new ArrayList<>();
        private final int[][][] often;

        Boxed(int rows, int round) {
            this.rows = rows;
            this.round = round;
            for (int word = 0; word < 1 << round; word++) {
                if (Integer.bitCount(word) == rows) {
                    shapes.add(ofWord(word));
                }
            }
            Comparator<int[]> bySize = Comparator.comparingInt(s -> Arrays.stream(s).sum());
            shapes.sort(bySize.thenComparing((a, b) -> Arrays.compare(b, a)));
            often = new int[shapes.size()][shapes.size()][];
        }

        int[] ofWord(int word) {
            int[] lengths = new int[rows];
            int r = 0;
            for (int b = round - 1; b >= 0; b--) {
                if ((word >> b & 1) != 0) {
                    lengths[r] = b - (rows - 1 - r);
                    r++;
                }
            }
            return lengths;
        }

        int word(int[] lengths) {
            int word = 0;
            for (int r = 0; r < rows; r++) {
                word += 1 << (lengths[r] + rows - 1 - r);
            }
            return word;
        }

        int find(int[] lengths) {
            for (int i = 0; i < shapes.size(); i++) {
                if (Arrays.equals(shapes.get(i), lengths)) {
                    return i;
                }
            }
            return -1;
        }

        int size(int i) {
            return Arrays.stream(shapes.get(i)).sum();
        }

        /** {sign, turns, shape} of rows that may even stand in a wrong order. */
        int[] taken(int[] lengths) {
            int sign = 1;
            int turns = 0;
            List<Integer> beads = new ArrayList<>();
            for (int r = 0; r < rows; r++) {
                int bead = lengths[r] + rows - 1 - r;
                while (bead >= round) {
                    bead -= round;
                    turns++;
                    sign *= rows % 2 == 0 ? -1 : 1;
                }
                if (beads.contains(bead)) {
                    return new int[] {0, -1, -1};
                }
                beads.add(bead);
            }
            for (int pass = 0; pass < rows; pass++) {
                for (int r = 0; r + 1 < rows; r++) {
                    if (beads.get(r) < beads.get(r + 1)) {
                        beads.add(r, beads.remove(r + 1));
                        sign = -sign;
                    }
                }
            }
            int word = 0;
            for (int bead : beads) {
                word |= 1 << bead;
            }
            return new int[] {sign, turns, find(ofWord(word))};
        }

        int[] product(int i, int j) {
            if (often[i][j] == null) {
                int[] row = new int[shapes.size()];
                addWeights(i, shapes.get(j), rows, new int[rows], row);
                often[i][j] = row;
            }
            return often[i][j];
        }

        /** Takes the letters off from the greatest on: each one is a strip of the tableau. */
        private void addWeights(int i, int[] outer, int letters, int[] weight, int[] row) {
            if (letters == 0) {
                int[] lengths = shapes.get(i).clone();
                for (int r = 0; r < rows; r++) {
                    lengths[r] += weight[r];
                }
                int[] t = taken(lengths);
                if (t[0] != 0) {
                    row[t[2]] += t[0];
                }
                return;
            }
            List<int[]> inner = new ArrayList<>();
            addInner(outer, new int[rows], 0, letters - 1, inner);
            for (int[] in : inner) {
                weight[letters - 1] = Arrays.stream(outer).sum() - Arrays.stream(in).sum();
                addWeights(i, in, letters - 1, weight, row);
            }
        }

        private void addInner(int[] outer, int[] in, int r, int most, List<int[]> inner) {
            if (r == rows) {
                inner.add(in.clone());
                return;
            }
            int least = r + 1 < rows ? outer[r + 1] : 0;
            for (int a = least; a <= outer[r]; a++) {
                if (a == 0 || r < most) {
                    in[r] = a;
                    addInner(outer, in, r + 1, most, inner);
                }
            }
            in[r] = 0;
        }

        int turns(int i, int j, int l) {
            return (size(i) + size(j) - size(l)) / round;
        }
    }

    private Boxed box = boxed(2, 4);
    private Map<List<Integer>, BigInteger> sum = new TreeMap<>(BY_PLACE);
    private Boxed keptBox = null;
    private Map<List<Integer>, BigInteger> keptSum = null;
    private final List<Integer> tape = new ArrayList<>();
    private int parts = 0;
    private final int[][] sheets = new int[4][];
    private final int[] sorts = new int[4];

    private static final Comparator<List<Integer>> BY_PLACE =
        Comparator.<List<Integer>>comparingInt(p -> p.get(0)).thenComparingInt(p -> p.get(1));

    static Boxed boxed(int rows, int round) {
        return BOXES.computeIfAbsent(rows + " " + round, k -> new Boxed(rows, round));
    }

    private boolean no(int i) {
        return i < 0 || i >= box.shapes.size();
    }

    private static boolean off(int v, int least, int most) {
        return v < least || v > most;
    }

    int box(int rows, int round) {
        if (off(rows, 1, 4) || off(round, rows + 1, 7)) {
            return -2;
        }
        box = boxed(rows, round);
        sum = new TreeMap<>(BY_PLACE);
        return box.shapes.size();
    }

    int row(int i, int r) {
        return no(i) || off(r, 0, box.rows - 1) ? -2 : box.shapes.get(i)[r];
    }

    int number(int digits) {
        if (digits < 0) {
            return -2;
        }
        return digits == 0 ? 0 : numbered(String.valueOf(digits));
    }

    private int numbered(String digits) {
        if (digits.length() > box.rows || digits.indexOf('0') >= 0) {
            return -1;
        }
        int[] lengths = new int[box.rows];
        for (int r = 0; r < digits.length(); r++) {
            lengths[r] = digits.charAt(r) - '0';
        }
        return box.find(lengths);
    }

    int of(int i, int what) {
        if (no(i) || off(what, 0, 6)) {
            return -2;
        }
        int[] s = box.shapes.get(i);
        int k = box.rows;
        int[] dual = new int[k];
        int rolled = 0;
        int turned = 0;
        int word = box.word(s);
        for (int r = 0; r < k; r++) {
            dual[r] = box.round - k - s[k - 1 - r];
            int bead = s[r] + k - 1 - r + 1;
            rolled |= 1 << (bead == box.round ? 0 : bead);
        }
        for (int b = 0; b < box.round; b++) {
            turned |= (word >> (box.round - 1 - b) & 1) == 0 ? 1 << b : 0;
        }
        return new int[] {box.size(i), filled(s), kind(s), word, box.find(dual),
            box.find(box.ofWord(rolled)), turned}[what];
    }

    private static int filled(int[] s) {
        return (int) Arrays.stream(s).filter(a -> a > 0).count();
    }

    private static int kind(int[] s) {
        if (Arrays.stream(s).sum() == 0) {
            return 0;
        }
        if (filled(s) == 1) {
            return 1;
        }
        if (Arrays.stream(s).max().getAsInt() <= 1) {
            return 2;
        }
        if (Arrays.stream(s).filter(a -> a > 0).distinct().count() == 1) {
            return 3;
        }
        return s[1] == 1 ? 4 : 5;
    }

    int kinds(int kind) {
        return off(kind, 0, 5) ? -2 : (int) box.shapes.stream().filter(s -> kind(s) == kind).count();
    }

    int times(int i, int j, int l, int what) {
        if (no(i) || no(j) || no(l) || off(what, 0, 1)) {
            return -2;
        }
        int often = box.product(i, j)[l];
        return what == 0 ? often : often == 0 ? -1 : box.turns(i, j, l);
    }

    int turns(int i, int j, int what) {
        if (no(i) || no(j) || off(what, 0, 3)) {
            return -2;
        }
        List<Integer> all = new ArrayList<>();
        int often = 0;
        for (int l = 0; l < box.shapes.size(); l++) {
            if (box.product(i, j)[l] != 0) {
                all.add(box.turns(i, j, l));
                often += box.product(i, j)[l];
            }
        }
        return new int[] {all.stream().min(Integer::compare).get(), all.stream().max(Integer::compare).get(),
            all.size(), often}[what];
    }

    int around(int l, int i, int d, int what) {
        if (no(l) || no(i) || off(d, 0, 7) || off(what, 0, 1)) {
            return -2;
        }
        List<Integer> found = new ArrayList<>();
        for (int j = 0; j < box.shapes.size(); j++) {
            if (box.product(i, j)[l] != 0 && box.turns(i, j, l) == d) {
                found.add(j);
            }
        }
        return what == 0 ? found.size() : found.isEmpty() ? -1 : found.get(0);
    }

    int hooks(int sheet, int what) {
        if (off(sheet, 0, 3) || off(what, 0, 2)) {
            return -1000;
        }
        int[] told = sheets[sheet];
        if (told == null) {
            return -1011;
        }
        if (told.length != box.rows) {
            return -1000;
        }
        for (int r = 0; r < told.length; r++) {
            if (off(told[r], 0, 20) || r > 0 && told[r] > told[r - 1]) {
                return -1000;
            }
        }
        return box.taken(told)[what];
    }

    int roots(int i, int j, int l) {
        return no(i) || no(j) || no(l) ? -2 : byProducts(new int[] {i, j}, l);
    }

    int rootsOf(int sheet, int l) {
        if (off(sheet, 0, 3) || no(l)) {
            return -2;
        }
        int[] told = sheets[sheet];
        if (told == null) {
            return -11;
        }
        if (told.length > 8) {
            return -2;
        }
        for (int i : told) {
            if (no(i)) {
                return -3;
            }
        }
        return byProducts(told, l);
    }

    private int byProducts(int[] factors, int l) {
        long[] often = new long[box.shapes.size()];
        often[0] = 1;
        for (int j : factors) {
            long[] next = new long[often.length];
            for (int i = 0; i < often.length; i++) {
                for (int t = 0; t < often.length; t++) {
                    next[t] = (next[t] + often[i] * box.product(i, j)[t]) % PRIME;
                }
            }
            often = next;
        }
        return Math.floorMod(often[l], PRIME);
    }

    int term(int d, int l) {
        return sum.getOrDefault(List.of(d, l), BigInteger.ZERO).intValueExact();
    }

    long scaled(int d, int l, int by) {
        if (off(d, 0, 7) || no(l)) {
            return Long.MIN_VALUE;
        }
        BigInteger v = BigInteger.valueOf(term(d, l)).multiply(BigInteger.valueOf(by));
        return v.bitLength() > 31 ? Long.MIN_VALUE : v.longValueExact();
    }

    private Map<List<Integer>, BigInteger> single(int d, int l, long v) {
        Map<List<Integer>, BigInteger> one = new TreeMap<>(BY_PLACE);
        if (v != 0) {
            one.put(List.of(d, l), BigInteger.valueOf(v));
        }
        return one;
    }

    /** null: it is SPENT, or one side was. */
    private Map<List<Integer>, BigInteger> join(Map<List<Integer>, BigInteger> a, Map<List<Integer>, BigInteger> b,
        int sign) {
        if (a == null || b == null) {
            return null;
        }
        Map<List<Integer>, BigInteger> all = new TreeMap<>(BY_PLACE);
        all.putAll(a);
        b.forEach((p, v) -> all.merge(p, v.multiply(BigInteger.valueOf(sign)), BigInteger::add));
        return unspent(all);
    }

    private Map<List<Integer>, BigInteger> product(Map<List<Integer>, BigInteger> a, Map<List<Integer>, BigInteger> b) {
        if (a == null || b == null) {
            return null;
        }
        Map<List<Integer>, BigInteger> all = new TreeMap<>(BY_PLACE);
        a.forEach((p, v) -> b.forEach((q, w) -> {
            int i = p.get(1);
            int j = q.get(1);
            for (int l = 0; l < box.shapes.size(); l++) {
                int often = box.product(i, j)[l];
                if (often != 0) {
                    all.merge(List.of(p.get(0) + q.get(0) + box.turns(i, j, l), l),
                        v.multiply(w).multiply(BigInteger.valueOf(often)), BigInteger::add);
                }
            }
        }));
        return unspent(all);
    }

    private static Map<List<Integer>, BigInteger> unspent(Map<List<Integer>, BigInteger> all) {
        all.values().removeIf(v -> v.signum() == 0);
        boolean spent = false;
        for (Map.Entry<List<Integer>, BigInteger> e : all.entrySet()) {
            spent |= e.getKey().get(0) > 7 || e.getValue().abs().compareTo(MOST) > 0;
        }
        return spent ? null : all;
    }

    int multiply(int l) {
        if (no(l)) {
            return -2;
        }
        Map<List<Integer>, BigInteger> comes = product(sum, single(0, l, 1));
        if (comes == null) {
            return -3;
        }
        sum = comes;
        return sum.size();
    }

    int feed(int n, int... b) {
        if (off(n, 1, 5) || Arrays.stream(b).anyMatch(v -> off(v, 0, 255))) {
            return -2;
        }
        if (tape.size() + n > 60) {
            return -4;
        }
        for (int k = 0; k < n; k++) {
            tape.add(b[k]);
        }
        return tape.size();
    }

    int read() {
        StringBuilder text = new StringBuilder();
        tape.forEach(b -> text.append((char) (int) b));
        tape.clear();
        List<String> tokens = new ArrayList<>();
        int fault = split(text.toString(), tokens);
        if (fault >= 0) {
            return -100 - fault;
        }
        Map<List<Integer>, BigInteger> comes = worth(tokens);
        if (comes == null) {
            return -3;
        }
        sum = comes;
        return sum.size();
    }

    /** The place of the FAULT, or -1. */
    private int split(String text, List<String> tokens) {
        int open = 0;
        boolean wantsOne = true;
        int at = 0;
        while (at < text.length()) {
            char c = text.charAt(at);
            int end = at + 1;
            if (wantsOne) {
                if (c == '(') {
                    if (open == 4) {
                        return at;
                    }
                    open++;
                } else if (c == '[') {
                    end = digitsEnd(text, at + 1);
                    int shape = end == at + 1 ? 0 : numbered(text.substring(at + 1, end));
                    if (shape < 0) {
                        return at;
                    }
                    if (end == text.length() || text.charAt(end) != ']') {
                        return end;
                    }
                    end++;
                    wantsOne = false;
                } else if (c == 'q') {
                    wantsOne = false;
                } else if (c >= '0' && c <= '9') {
                    end = digitsEnd(text, at);
                    wantsOne = false;
                } else {
                    return at;
                }
            } else if (c == ')') {
                if (open == 0) {
                    return at;
                }
                open--;
            } else if (c == '*' || c == '+' || c == '-') {
                wantsOne = true;
            } else {
                return at;
            }
            tokens.add(text.substring(at, end));
            at = end;
        }
        return wantsOne || open > 0 ? at : -1;
    }

    private static int digitsEnd(String text, int from) {
        int end = from;
        while (end < text.length() && end < from + 4 && "0123456789".indexOf(text.charAt(end)) >= 0) {
            end++;
        }
        return end;
    }

    private record Part(Map<List<Integer>, BigInteger> sum, int parts) {
    }

    private Map<List<Integer>, BigInteger> worth(List<String> tokens) {
        ArrayDeque<Part> values = new ArrayDeque<>();
        ArrayDeque<String> waiting = new ArrayDeque<>();
        for (String t : tokens) {
            char c = t.charAt(0);
            if (c == '(') {
                waiting.push(t);
            } else if (c == ')') {
                while (!waiting.peek().equals("(")) {
                    apply(values, waiting.pop());
                }
                waiting.pop();
            } else if (c == '*' || c == '+' || c == '-') {
                while (!waiting.isEmpty() && !waiting.peek().equals("(")
                    && (c != '*' || waiting.peek().equals("*"))) {
                    apply(values, waiting.pop());
                }
                waiting.push(t);
            } else {
                values.push(new Part(one(t), 1));
            }
        }
        while (!waiting.isEmpty()) {
            apply(values, waiting.pop());
        }
        Part all = values.pop();
        parts = all.parts();
        return all.sum();
    }

    private Map<List<Integer>, BigInteger> one(String t) {
        if (t.equals("q")) {
            return single(1, 0, 1);
        }
        if (t.charAt(0) == '[') {
            return single(0, t.length() == 2 ? 0 : numbered(t.substring(1, t.length() - 1)), 1);
        }
        return single(0, 0, Integer.parseInt(t));
    }

    private void apply(ArrayDeque<Part> values, String sign) {
        Part b = values.pop();
        Part a = values.pop();
        Part c = sign.equals("*") ? new Part(product(a.sum(), b.sum()), 1 + Math.max(a.parts(), b.parts()))
            : new Part(join(a.sum(), b.sum(), sign.equals("+") ? 1 : -1), 1 + a.parts() + b.parts());
        values.push(c);
    }

    private int[] walked(int seed, int n) {
        int where = 0;
        int taken = 0;
        int z = seed;
        for (int step = 0; step < n; step++) {
            z = z * 1103515245 + 12345;
            int j = (z >>> 9) % box.shapes.size();
            int l = 0;
            while (box.product(where, j)[l] == 0) {
                l++;
            }
            taken += box.turns(where, j, l);
            where = l;
        }
        return new int[] {where, taken};
    }

    int drawn(int seed, int n, int what) {
        return off(n, 0, 40) || off(what, 0, 1) ? -2 : walked(seed, n)[what];
    }

    int chance(int seed, int m, int n, int d, int part) {
        if (off(m, 1, 20) || off(n, 0, 40) || d < 0 || off(part, 0, 1)) {
            return -2;
        }
        int above = 0;
        for (int s = 0; s < m; s++) {
            above += walked(seed + s, n)[1] >= d ? 1 : 0;
        }
        int common = BigInteger.valueOf(above).gcd(BigInteger.valueOf(m)).intValueExact();
        return (part == 0 ? above : m) / common;
    }

    int tells(int sheet, int i, int j) {
        if (off(sheet, 0, 3) || no(i) || no(j)) {
            return -2;
        }
        if (sheets[sheet] == null) {
            return -11;
        }
        int other = Arrays.mismatch(sheets[sheet], box.product(i, j));
        return other >= sheets[sheet].length ? -1 : other;
    }

    int film(int sheet, int i, int j) {
        if (off(sheet, 0, 3) || no(i) || no(j)) {
            return -2;
        }
        sheets[sheet] = box.product(i, j).clone();
        sorts[sheet] = 0;
        return box.shapes.size();
    }

    int image() {
        keptBox = box;
        keptSum = new TreeMap<>(BY_PLACE);
        keptSum.putAll(sum);
        return box.shapes.size();
    }

    int back() {
        if (keptBox == null) {
            return -3;
        }
        box = keptBox;
        sum = new TreeMap<>(BY_PLACE);
        sum.putAll(keptSum);
        return box.shapes.size();
    }

    int load(int sheet, int sort, int from, int n) {
        if (off(sheet, 0, 3) || off(sort, 0, 1) || off(n, 0, 40)) {
            return -2;
        }
        if (sheets[sheet] == null) {
            return -11;
        }
        if (sorts[sheet] != sort) {
            return -13;
        }
        int came = 0;
        for (int l = 0; l < n; l++) {
            long at = (long) from + l;
            if (at < 0 || at >= sheets[sheet].length) {
                return -12;
            }
            int v = sheets[sheet][(int) at];
            if (!no(l) && !off(v, -1000000, 1000000)) {
                sum.remove(List.of(0, l));
                sum.putAll(single(0, l, v));
                came++;
            }
        }
        return came;
    }

    int count(int what) {
        switch (what) {
            case 0: return box.shapes.size();
            case 1: return box.rows;
            case 2: return box.round;
            case 3: return sum.size();
            case 4: return tape.size();
            case 5: return parts;
            default: return -2;
        }
    }

    int sheet(int sheet, int sort, int n) {
        if (off(sheet, 0, 3) || off(sort, -1, 1)) {
            return -2;
        }
        if (sort == -1) {
            sheets[sheet] = null;
            return 1;
        }
        if (n > 40 || n < 0) {
            return n < 0 ? -14 : -2;
        }
        sheets[sheet] = new int[n];
        sorts[sheet] = sort;
        return 1;
    }

    int put(int sheet, int i, int v) {
        if (off(sheet, 0, 3)) {
            return -2;
        }
        if (sheets[sheet] == null) {
            return -11;
        }
        if (off(i, 0, sheets[sheet].length - 1)) {
            return -12;
        }
        sheets[sheet][i] = sorts[sheet] == 0 ? (short) v : v;
        return 1;
    }

    int copy(int sheet, int i, int other, int j, int n) {
        if (off(sheet, 0, 3) || off(other, 0, 3)) {
            return -2;
        }
        if (sheets[sheet] == null || sheets[other] == null) {
            return -11;
        }
        if (sorts[sheet] != sorts[other]) {
            return -13;
        }
        if (n < 0 || i < 0 || j < 0 || (long) i + n > sheets[sheet].length || (long) j + n > sheets[other].length) {
            return -12;
        }
        int[] was = sheets[sheet].clone();
        for (int k = 0; k < n; k++) {
            sheets[other][j + k] = was[i + k];
        }
        return n;
    }
}
