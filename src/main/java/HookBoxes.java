import java.util.Arrays;

/** Shapes in a box whose products come round. ../shared/DOC.md tells what every call answers. */
public final class HookBoxes {
    public static final int NONE = -1, BAD = -2, STATE = -3, FULL = -4;
    public static final long NO = Long.MIN_VALUE;

    private static final int MISSING = -11, OUTSIDE = -12, OTHER_SORT = -13, BELOW_ZERO = -14;
    private static final int NO_HOOKS = -1000, HOOKS_MISSING = -1011, AT_FAULT = -100;

    private static final int MOST_ROWS = 4, MOST_ROUND = 7, MOST_SHAPES = 35;
    /** No box has more SHAPES whose SIZES leave one and the same rest by ROUND. */
    private static final int MOST_ALIKE = 5;
    private static final int MOST_TURNS = 7, MOST_COEFFICIENT = 1000000;
    private static final int PLACES = (MOST_TURNS + 1) * MOST_SHAPES;
    private static final int TAPE_ROOM = 60, MOST_OPEN = 4, MOST_DIGITS = 4, MOST_FED = 5;
    private static final int SHEETS = 4, MOST_ITEMS = 40, SHORTS = 0, INTS = 1;
    private static final int LONGEST_TOLD = 20, MOST_TOLD = 8;
    private static final int MOST_STEPS = 40, MOST_SEEDS = 20;

    private final Box box;
    private final Rounder rounder;
    private final Products products;
    private final Roots byRoots;
    private final Multiplier multiplier;
    private final Reader reader;
    private final Walker walker;
    private final Sum inHand;
    private final Sum factor;
    private final Sum kept;
    /** 0: there is no image. */
    private int keptRows;
    private int keptRound;
    private final Sheet[] sheets;

    public HookBoxes() {
        box = new Box();
        rounder = new Rounder(box);
        products = new Products(box, rounder);
        byRoots = new Roots(box);
        multiplier = new Multiplier(box, products);
        reader = new Reader(box, multiplier);
        walker = new Walker(box, products);
        inHand = new Sum();
        factor = new Sum();
        kept = new Sum();
        sheets = new Sheet[SHEETS];
        for (int s = 0; s < SHEETS; s++) {
            sheets[s] = new Sheet();
        }
    }

    // ---- shapes

    public int box(int rows, int round) {
        if (isOff(rows, 1, MOST_ROWS) || isOff(round, rows + 1, MOST_ROUND)) {
            return BAD;
        }
        changeBox(rows, round);
        inHand.clear();
        return box.shapes;
    }

    public int row(int i, int r) {
        if (!box.isShape(i) || isOff(r, 0, box.rows - 1)) {
            return BAD;
        }
        return box.lengths[i * MOST_ROWS + r];
    }

    public int number(int digits) {
        return digits < 0 ? BAD : box.numbered(digits);
    }

    public int of(int i, int what) {
        if (!box.isShape(i)) {
            return BAD;
        }
        switch (what) {
            case 0: return box.sizes[i];
            case 1: return box.filledRows(i);
            case 2: return box.kindOf(i);
            case 3: return box.words[i];
            case 4: return box.dualOf(i);
            case 5: return box.rolledOf(i);
            case 6: return box.turnedWordOf(i);
            default: return BAD;
        }
    }

    public int kinds(int kind) {
        if (isOff(kind, 0, 5)) {
            return BAD;
        }
        int many = 0;
        for (int i = 0; i < box.shapes; i++) {
            if (box.kindOf(i) == kind) {
                many++;
            }
        }
        return many;
    }

    // ---- products

    public int times(int i, int j, int l, int what) {
        if (!box.isShape(i) || !box.isShape(j) || !box.isShape(l) || isOff(what, 0, 1)) {
            return BAD;
        }
        int often = products.often(i, j, l);
        if (what == 0) {
            return often;
        }
        return often == 0 ? NONE : products.turnsTo(i, j, l);
    }

    public int turns(int i, int j, int what) {
        if (!box.isShape(i) || !box.isShape(j) || isOff(what, 0, 3)) {
            return BAD;
        }
        int least = NONE;
        int greatest = NONE;
        int many = 0;
        int all = 0;
        for (int l = 0; l < box.shapes; l++) {
            int often = products.often(i, j, l);
            if (often != 0) {
                int taken = products.turnsTo(i, j, l);
                least = many == 0 ? taken : Math.min(least, taken);
                greatest = Math.max(greatest, taken);
                many++;
                all += often;
            }
        }
        switch (what) {
            case 0: return least;
            case 1: return greatest;
            case 2: return many;
            default: return all;
        }
    }

    public int around(int l, int i, int d, int what) {
        if (!box.isShape(l) || !box.isShape(i) || isOff(d, 0, MOST_TURNS) || isOff(what, 0, 1)) {
            return BAD;
        }
        int many = 0;
        int first = NONE;
        for (int j = 0; j < box.shapes; j++) {
            if (products.often(i, j, l) != 0 && products.turnsTo(i, j, l) == d) {
                many++;
                if (first == NONE) {
                    first = j;
                }
            }
        }
        return what == 0 ? many : first;
    }

    public int hooks(int sheet, int what) {
        if (isNoSheet(sheet) || isOff(what, 0, 2)) {
            return NO_HOOKS;
        }
        Sheet told = sheets[sheet];
        if (told.isMissing()) {
            return HOOKS_MISSING;
        }
        if (told.size != box.rows || !told.tellsRows()) {
            return NO_HOOKS;
        }
        rounder.takeRound(told.items);
        if (what == 0) {
            return rounder.sign;
        }
        if (rounder.sign == 0) {
            return NONE;
        }
        return what == 1 ? rounder.taken : rounder.shape;
    }

    public int roots(int i, int j, int l) {
        if (!box.isShape(i) || !box.isShape(j) || !box.isShape(l)) {
            return BAD;
        }
        byRoots.factors[0] = i;
        byRoots.factors[1] = j;
        return byRoots.often(2, l);
    }

    public int rootsOf(int sheet, int l) {
        if (isNoSheet(sheet) || !box.isShape(l)) {
            return BAD;
        }
        Sheet told = sheets[sheet];
        if (told.isMissing()) {
            return MISSING;
        }
        if (told.size > MOST_TOLD) {
            return BAD;
        }
        for (int t = 0; t < told.size; t++) {
            if (!box.isShape(told.items[t])) {
                return STATE;
            }
            byRoots.factors[t] = told.items[t];
        }
        return byRoots.often(told.size, l);
    }

    // ---- the sum in hand

    public int term(int d, int l) {
        return isOff(d, 0, MOST_TURNS) || !box.isShape(l) ? 0 : inHand.coefficients[d * MOST_SHAPES + l];
    }

    public long scaled(int d, int l, int by) {
        if (isOff(d, 0, MOST_TURNS) || !box.isShape(l)) {
            return NO;
        }
        long product = (long) inHand.coefficients[d * MOST_SHAPES + l] * by;
        return product == (int) product ? product : NO;
    }

    public int multiply(int l) {
        if (!box.isShape(l)) {
            return BAD;
        }
        factor.clear();
        factor.coefficients[l] = 1;
        return multiplier.multiplied(inHand, factor) ? inHand.filled() : STATE;
    }

    public int feed(int n, int a, int b, int c, int d, int e) {
        if (isOff(n, 1, MOST_FED) || isNoByte(a) || isNoByte(b) || isNoByte(c) || isNoByte(d) || isNoByte(e)) {
            return BAD;
        }
        if (n > TAPE_ROOM - reader.size) {
            return FULL;
        }
        for (int k = 0; k < n; k++) {
            switch (k) {
                case 0: reader.append(a); break;
                case 1: reader.append(b); break;
                case 2: reader.append(c); break;
                case 3: reader.append(d); break;
                default: reader.append(e); break;
            }
        }
        return reader.size;
    }

    public int read() {
        reader.readTape();
        if (reader.fault != NONE) {
            return AT_FAULT - reader.fault;
        }
        if (reader.spent) {
            return STATE;
        }
        inHand.become(reader.totals[0]);
        return inHand.filled();
    }

    // ---- lots, what was told

    public int drawn(int seed, int n, int what) {
        if (isOff(n, 0, MOST_STEPS) || isOff(what, 0, 1)) {
            return BAD;
        }
        walker.walk(seed, n);
        return what == 0 ? walker.where : walker.taken;
    }

    public int chance(int seed, int m, int n, int d, int part) {
        if (isOff(m, 1, MOST_SEEDS) || isOff(n, 0, MOST_STEPS) || d < 0 || isOff(part, 0, 1)) {
            return BAD;
        }
        int above = 0;
        for (int s = 0; s < m; s++) {
            walker.walk(seed + s, n);
            if (walker.taken >= d) {
                above++;
            }
        }
        int common = commonDivisor(above, m);
        return (part == 0 ? above : m) / Math.max(common, 1);
    }

    public int tells(int sheet, int i, int j) {
        if (isNoSheet(sheet) || !box.isShape(i) || !box.isShape(j)) {
            return BAD;
        }
        Sheet told = sheets[sheet];
        if (told.isMissing()) {
            return MISSING;
        }
        for (int l = 0; l < told.size; l++) {
            if (!box.isShape(l) || told.items[l] != products.often(i, j, l)) {
                return l;
            }
        }
        return NONE;
    }

    public int film(int sheet, int i, int j) {
        if (isNoSheet(sheet) || !box.isShape(i) || !box.isShape(j)) {
            return BAD;
        }
        Sheet told = sheets[sheet];
        told.become(SHORTS, box.shapes);
        for (int l = 0; l < box.shapes; l++) {
            told.set(l, products.often(i, j, l));
        }
        return box.shapes;
    }

    // ---- the image, the host

    public int image() {
        keptRows = box.rows;
        keptRound = box.round;
        kept.become(inHand);
        return box.shapes;
    }

    public int back() {
        if (keptRows == 0) {
            return STATE;
        }
        changeBox(keptRows, keptRound);
        inHand.become(kept);
        return box.shapes;
    }

    public int load(int sheet, int sort, int from, int n) {
        if (isNoSheet(sheet) || isOff(sort, SHORTS, INTS) || isOff(n, 0, MOST_ITEMS)) {
            return BAD;
        }
        Sheet told = sheets[sheet];
        if (told.isMissing()) {
            return MISSING;
        }
        if (told.sort != sort) {
            return OTHER_SORT;
        }
        int came = 0;
        for (int l = 0; l < n; l++) {
            // from + l can't wrap here: the first place outside ends the loop
            if (!told.hasItem(from + l)) {
                return OUTSIDE;
            }
            int coefficient = told.items[from + l];
            if (box.isShape(l) && !isOff(coefficient, -MOST_COEFFICIENT, MOST_COEFFICIENT)) {
                inHand.coefficients[l] = coefficient;
                came++;
            }
        }
        return came;
    }

    public int count(int what) {
        switch (what) {
            case 0: return box.shapes;
            case 1: return box.rows;
            case 2: return box.round;
            case 3: return inHand.filled();
            case 4: return reader.size;
            case 5: return reader.parts;
            default: return BAD;
        }
    }

    public int sheet(int sheet, int sort, int n) {
        if (isNoSheet(sheet) || isOff(sort, NONE, INTS)) {
            return BAD;
        }
        if (sort == NONE) {
            sheets[sheet].become(NONE, 0);
            return 1;
        }
        if (n > MOST_ITEMS) {
            return BAD;
        }
        if (n < 0) {
            return BELOW_ZERO;
        }
        sheets[sheet].become(sort, n);
        return 1;
    }

    public int put(int sheet, int i, int v) {
        if (isNoSheet(sheet)) {
            return BAD;
        }
        Sheet told = sheets[sheet];
        if (told.isMissing()) {
            return MISSING;
        }
        if (!told.hasItem(i)) {
            return OUTSIDE;
        }
        told.set(i, v);
        return 1;
    }

    public int copy(int sheet, int i, int other, int j, int n) {
        if (isNoSheet(sheet) || isNoSheet(other)) {
            return BAD;
        }
        Sheet from = sheets[sheet];
        Sheet to = sheets[other];
        if (from.isMissing() || to.isMissing()) {
            return MISSING;
        }
        if (from.sort != to.sort) {
            return OTHER_SORT;
        }
        if (!from.hasStretch(i, n) || !to.hasStretch(j, n)) {
            return OUTSIDE;
        }
        System.arraycopy(from.items, i, to.items, j, n);
        return n;
    }

    private void changeBox(int rows, int round) {
        // the tables of the box that is there already still hold
        if (rows != box.rows || round != box.round) {
            box.become(rows, round);
            products.renew();
            byRoots.forget();
        }
    }

    private static boolean isOff(int v, int least, int most) {
        return v < least || v > most;
    }

    private static boolean isNoByte(int v) {
        return isOff(v, 0, 255);
    }

    private static boolean isNoSheet(int s) {
        return isOff(s, 0, SHEETS - 1);
    }

    private static int commonDivisor(int a, int b) {
        int greater = b;
        int less = a;
        for (int step = 0; step < 100 && less != 0; step++) {
            int rest = greater % less;
            greater = less;
            less = rest;
        }
        return greater;
    }

    /** THE BOX and its SHAPES, in rows that the greatest box fits in. ROUND and SHAPES are never 0. */
    private static final class Box {
        int rows;
        int round;
        int width;
        int shapes;
        final int[] lengths = new int[MOST_SHAPES * MOST_ROWS];
        final int[] sizes = new int[MOST_SHAPES];
        final int[] words = new int[MOST_SHAPES];
        /** The SHAPES by the rest of their SIZE by ROUND: only those of one rest stand in a PRODUCT. */
        final int[] alike = new int[MOST_ROUND * MOST_ALIKE];
        final int[] alikes = new int[MOST_ROUND];
        /** The place of each SHAPE among those alike. */
        final int[] slots = new int[MOST_SHAPES];
        private final int[] byWord = new int[1 << MOST_ROUND];
        private final int[] trial = new int[MOST_ROWS];

        Box() {
            become(2, 4);
        }

        void become(int newRows, int newRound) {
            rows = newRows;
            round = newRound;
            width = newRound - newRows;
            shapes = 0;
            Arrays.fill(byWord, NONE);
            Arrays.fill(alikes, 0);
            Arrays.fill(trial, 0);
            for (int size = 0; size <= rows * width; size++) {
                addShapes(0, width, size);
            }
        }

        /** The longer lengths are tried first, as the numbers of the SHAPES ask. */
        private void addShapes(int r, int longest, int left) {
            if (r >= rows) {
                if (left == 0) {
                    addTrial();
                }
                return;
            }
            for (int a = Math.min(longest, left); a >= 0; a--) {
                trial[r] = a;
                addShapes(r + 1, a, left - a);
            }
        }

        private void addTrial() {
            int size = 0;
            int word = 0;
            for (int r = 0; r < rows; r++) {
                size += trial[r];
                word |= 1 << beadOf(trial[r], r);
            }
            int rest = size % round;
            if (shapes >= MOST_SHAPES || alikes[rest] >= MOST_ALIKE) {
                return;
            }
            System.arraycopy(trial, 0, lengths, shapes * MOST_ROWS, MOST_ROWS);
            sizes[shapes] = size;
            words[shapes] = word;
            byWord[word] = shapes;
            slots[shapes] = alikes[rest];
            alike[rest * MOST_ALIKE + alikes[rest]] = shapes;
            alikes[rest]++;
            shapes++;
        }

        int beadOf(int length, int r) {
            return length + rows - 1 - r;
        }

        boolean isShape(int i) {
            return i >= 0 && i < shapes;
        }

        int withWord(int word) {
            return word >= 0 && word < byWord.length ? byWord[word] : NONE;
        }

        /** The digits are taken from the last row on, so each may be no less than the one before it. */
        int numbered(int digits) {
            int filled = 0;
            for (int left = digits; left > 0; left /= 10) {
                filled++;
            }
            if (filled > rows) {
                return NONE;
            }
            int word = (1 << (rows - filled)) - 1;
            int left = digits;
            int least = 1;
            for (int r = filled - 1; r >= 0; r--) {
                int length = left % 10;
                if (length < least || length > width) {
                    return NONE;
                }
                word |= 1 << beadOf(length, r);
                least = length;
                left /= 10;
            }
            return withWord(word);
        }

        int filledRows(int i) {
            int filled = 0;
            for (int r = 0; r < rows; r++) {
                if (lengths[i * MOST_ROWS + r] > 0) {
                    filled++;
                }
            }
            return filled;
        }

        int kindOf(int i) {
            int filled = filledRows(i);
            int first = lengths[i * MOST_ROWS];
            if (filled <= 1) {
                return filled;
            }
            if (first == 1) {
                return 2;
            }
            if (lengths[i * MOST_ROWS + filled - 1] == first) {
                return 3;
            }
            return lengths[i * MOST_ROWS + 1] == 1 ? 4 : 5;
        }

        /** The DUAL has the beads counted from the other end. */
        int dualOf(int i) {
            return withWord(mirrored(words[i]));
        }

        int rolledOf(int i) {
            int word = words[i];
            return withWord(((word << 1) & fullWord()) | (word >> (round - 1)));
        }

        int turnedWordOf(int i) {
            return fullWord() & ~mirrored(words[i]);
        }

        private int fullWord() {
            return (1 << round) - 1;
        }

        private int mirrored(int word) {
            int other = 0;
            for (int b = 0; b < round; b++) {
                other |= ((word >> (round - 1 - b)) & 1) << b;
            }
            return other;
        }
    }

    /** Rows TAKEN ROUND: the sign (0: they come to nothing), how many TURNS, the SHAPE. */
    private static final class Rounder {
        int sign;
        int taken;
        int shape;
        private final Box box;
        private final int[] beads = new int[MOST_ROWS];

        Rounder(Box box) {
            this.box = box;
        }

        /** The lengths: one for each row of the box at least, none below 0. */
        void takeRound(int[] lengths) {
            sign = 1;
            taken = 0;
            int word = 0;
            for (int r = 0; r < box.rows; r++) {
                int bead = box.beadOf(lengths[r], r);
                int off = bead / box.round;
                taken += off;
                if (box.rows % 2 == 0 && off % 2 != 0) {
                    sign = -sign;
                }
                beads[r] = bead % box.round;
                for (int ahead = 0; ahead < r; ahead++) {
                    sign *= Integer.compare(beads[ahead], beads[r]);
                }
                word |= 1 << beads[r];
            }
            shape = sign == 0 ? NONE : box.withWord(word);
        }
    }

    /** PRODUCTS of two SHAPES; each is worked out when it is first asked for. */
    private static final class Products {
        private static final int UNKNOWN = Integer.MIN_VALUE;
        private final Box box;
        private final Rounder rounder;
        /** By SHAPE, by length of the strip, by slot: the SHAPE TIMES that length. */
        private final int[] strips = new int[MOST_SHAPES * MOST_ROUND * MOST_ALIKE];
        /** By SHAPE, by SHAPE, by slot: OFTEN. */
        final int[] table = new int[MOST_SHAPES * MOST_SHAPES * MOST_ALIKE];
        /** By how many rows are multiplied already, by slot. */
        private final int[] partial = new int[(MOST_ROWS + 1) * MOST_ALIKE];
        private final int[] grown = new int[MOST_ROWS];

        Products(Box box, Rounder rounder) {
            this.box = box;
            this.rounder = rounder;
            renew();
        }

        void renew() {
            Arrays.fill(strips, 0);
            Arrays.fill(table, UNKNOWN);
            for (int i = 0; i < box.shapes; i++) {
                for (int n = 0; n <= box.width; n++) {
                    addStrips(i, n, box.rows - 1, n);
                }
            }
        }

        /** From the last row up: what is left at the end comes to row 0, which has no bound. */
        private void addStrips(int i, int n, int r, int left) {
            int at = i * MOST_ROWS + r;
            if (r <= 0) {
                grown[0] = box.lengths[i * MOST_ROWS] + left;
                rounder.takeRound(grown);
                if (rounder.shape != NONE) {
                    strips[(i * MOST_ROUND + n) * MOST_ALIKE + box.slots[rounder.shape]] += rounder.sign;
                }
                return;
            }
            int most = Math.min(left, box.lengths[at - 1] - box.lengths[at]);
            for (int more = 0; more <= most; more++) {
                grown[r] = box.lengths[at] + more;
                addStrips(i, n, r - 1, left - more);
            }
        }

        int often(int i, int j, int l) {
            if ((box.sizes[i] + box.sizes[j] - box.sizes[l]) % box.round != 0) {
                return 0;
            }
            return table[placeOf(i, j) + box.slots[l]];
        }

        int turnsTo(int i, int j, int l) {
            return (box.sizes[i] + box.sizes[j] - box.sizes[l]) / box.round;
        }

        /** The first SHAPE in a PRODUCT; slots go by number. */
        int firstIn(int i, int j) {
            int rest = restOf(i, j);
            int place = placeOf(i, j);
            for (int slot = 0; slot < box.alikes[rest]; slot++) {
                if (table[place + slot] != 0) {
                    return box.alike[rest * MOST_ALIKE + slot];
                }
            }
            return NONE;
        }

        int restOf(int i, int j) {
            return (box.sizes[i] + box.sizes[j]) % box.round;
        }

        /** Where the table has the PRODUCT, slot by slot. */
        int placeOf(int i, int j) {
            int place = (i * MOST_SHAPES + j) * MOST_ALIKE;
            if (table[place] == UNKNOWN) {
                Arrays.fill(table, place, place + MOST_ALIKE, 0);
                Arrays.fill(partial, 0, MOST_ALIKE, 0);
                partial[box.slots[i]] = 1;
                addOrders(place, j, 0, 0, box.sizes[i] % box.round, 1);
            }
            return place;
        }

        /** All places for row a of j and for those behind it; used: a bit for each place that is taken. */
        private void addOrders(int place, int j, int a, int used, int rest, int sign) {
            int filled = box.filledRows(j);
            if (a >= filled) {
                for (int slot = 0; slot < MOST_ALIKE; slot++) {
                    table[place + slot] += sign * partial[a * MOST_ALIKE + slot];
                }
                return;
            }
            for (int o = 0; o < filled; o++) {
                int n = box.lengths[j * MOST_ROWS + a] + o - a;
                if (((used >> o) & 1) == 0 && n >= 0 && n <= box.width) {
                    int wrongWay = Integer.bitCount(used >> o);
                    multiplyPartial(a, rest, n);
                    addOrders(place, j, a + 1, used | (1 << o), (rest + n) % box.round,
                        wrongWay % 2 == 0 ? sign : -sign);
                }
            }
        }

        private void multiplyPartial(int a, int rest, int n) {
            int from = a * MOST_ALIKE;
            int to = from + MOST_ALIKE;
            Arrays.fill(partial, to, to + MOST_ALIKE, 0);
            for (int slot = 0; slot < box.alikes[rest]; slot++) {
                int often = partial[from + slot];
                int strip = (box.alike[rest * MOST_ALIKE + slot] * MOST_ROUND + n) * MOST_ALIKE;
                if (often != 0) {
                    for (int s = 0; s < MOST_ALIKE; s++) {
                        partial[to + s] += often * strips[strip + s];
                    }
                }
            }
        }
    }

    /** OFTEN by all ROOTS, modulo a prime. */
    private static final class Roots {
        private static final int PRIME = 2521;
        final int[] factors = new int[MOST_TOLD];
        private final Box box;
        /** By root, by exponent; of the roots, and of their inverses. */
        private final int[] powers = new int[MOST_ROUND * MOST_ROUND];
        private final int[] inversePowers = new int[MOST_ROUND * MOST_ROUND];
        private final int[] chosen = new int[MOST_ROWS];
        /** Whether the powers are those of the box; they are dear, and asked for seldom. */
        private boolean ready = false;

        Roots(Box box) {
            this.box = box;
        }

        void forget() {
            ready = false;
        }

        private void prepare() {
            int wanted = box.rows % 2 == 0 ? PRIME - 1 : 1;
            int many = 0;
            for (int x = 1; x < PRIME && many < box.round; x++) {
                if (power(x, box.round) == wanted) {
                    fillPowers(powers, many, x);
                    fillPowers(inversePowers, many, inverse(x));
                    many++;
                }
            }
            ready = true;
        }

        private void fillPowers(int[] to, int root, int x) {
            int value = 1;
            for (int exponent = 0; exponent < MOST_ROUND; exponent++) {
                to[root * MOST_ROUND + exponent] = value;
                value = value * x % PRIME;
            }
        }

        /** OFTEN of l in the PRODUCT of the first n of factors. */
        int often(int n, int l) {
            if (!ready) {
                prepare();
            }
            int all = 0;
            for (int set = 0; set < 1 << box.round; set++) {
                if (Integer.bitCount(set) == box.rows) {
                    choose(set);
                    all += shareOf(n, l);
                }
            }
            return all % PRIME * inverse(power(box.round, box.rows)) % PRIME;
        }

        private void choose(int set) {
            int many = 0;
            for (int root = 0; root < box.round && many < MOST_ROWS; root++) {
                if (((set >> root) & 1) != 0) {
                    chosen[many] = root;
                    many++;
                }
            }
        }

        private int shareOf(int n, int l) {
            int empty = alternant(powers, 0, 0, 0);
            int below = inverse(empty);
            int share = empty * alternant(inversePowers, l, 0, 0) % PRIME;
            for (int f = 0; f < n; f++) {
                int value = alternant(powers, factors[f], 0, 0) * below % PRIME;
                share = share * value % PRIME;
            }
            return share;
        }

        /** The determinant of the rows from r on without the used roots, unfolded along row r. */
        private int alternant(int[] from, int i, int r, int used) {
            if (r >= box.rows) {
                return 1;
            }
            int bead = box.beadOf(box.lengths[i * MOST_ROWS + r], r);
            int all = 0;
            int sign = 1;
            for (int c = 0; c < box.rows; c++) {
                if (((used >> c) & 1) == 0) {
                    int smaller = alternant(from, i, r + 1, used | (1 << c));
                    all += sign * (from[chosen[c] * MOST_ROUND + bead] * smaller % PRIME);
                    sign = -sign;
                }
            }
            return Math.floorMod(all, PRIME);
        }

        private static int inverse(int x) {
            return power(x, PRIME - 2);
        }

        private static int power(int x, int exponent) {
            int value = 1;
            int square = x % PRIME;
            for (int left = exponent; left > 0; left >>= 1) {
                if ((left & 1) != 0) {
                    value = value * square % PRIME;
                }
                square = square * square % PRIME;
            }
            return value;
        }
    }

    /** A SUM: a COEFFICIENT for each number of TURNS and each SHAPE. */
    private static final class Sum {
        final int[] coefficients = new int[PLACES];

        void clear() {
            Arrays.fill(coefficients, 0);
        }

        void become(Sum other) {
            System.arraycopy(other.coefficients, 0, coefficients, 0, PLACES);
        }

        int filled() {
            int many = 0;
            for (int p = 0; p < PLACES; p++) {
                if (coefficients[p] != 0) {
                    many++;
                }
            }
            return many;
        }

        /** False: it is SPENT. */
        boolean added(Sum other, int sign) {
            boolean fits = true;
            for (int p = 0; p < PLACES; p++) {
                coefficients[p] += sign * other.coefficients[p];
                fits &= Math.abs(coefficients[p]) <= MOST_COEFFICIENT;
            }
            return fits;
        }
    }

    /** Multiplies SUMS in a row of longs that has room for all TURNS which may come. */
    private static final class Multiplier {
        /** Those of two SUMS, and 3 more: the SIZES of two SHAPES are at most 24, 18 by a ROUND of 6. */
        private static final int MOST_COMING = MOST_TURNS + MOST_TURNS + 3;
        private final Box box;
        private final Products products;
        private final long[] coming = new long[(MOST_COMING + 1) * MOST_SHAPES];

        Multiplier(Box box, Products products) {
            this.box = box;
            this.products = products;
        }

        /** The left one becomes the product; false: it is SPENT, and the left one stays. */
        boolean multiplied(Sum left, Sum right) {
            Arrays.fill(coming, 0);
            for (int b = 0; b < PLACES; b++) {
                for (int a = 0; right.coefficients[b] != 0 && a < PLACES; a++) {
                    if (left.coefficients[a] != 0) {
                        int place = products.placeOf(a % MOST_SHAPES, b % MOST_SHAPES);
                        addShares(a, b, place, (long) left.coefficients[a] * right.coefficients[b]);
                    }
                }
            }
            if (!fits()) {
                return false;
            }
            for (int p = 0; p < PLACES; p++) {
                left.coefficients[p] = (int) coming[p];
            }
            return true;
        }

        private void addShares(int a, int b, int place, long both) {
            int i = a % MOST_SHAPES;
            int j = b % MOST_SHAPES;
            int d = a / MOST_SHAPES + b / MOST_SHAPES;
            int rest = products.restOf(i, j);
            for (int slot = 0; slot < box.alikes[rest]; slot++) {
                int often = products.table[place + slot];
                if (often != 0) {
                    int l = box.alike[rest * MOST_ALIKE + slot];
                    coming[(d + products.turnsTo(i, j, l)) * MOST_SHAPES + l] += both * often;
                }
            }
        }

        private boolean fits() {
            for (int p = 0; p < coming.length; p++) {
                long most = p < PLACES ? MOST_COEFFICIENT : 0;
                if (Math.abs(coming[p]) > most) {
                    return false;
                }
            }
            return true;
        }
    }

    /** THE TAPE, and the TEXT on it: its FAULT, its PARTS, its SUM. */
    private static final class Reader {
        int size;
        int parts;
        int fault;
        boolean spent;
        /** By how many ( are open: the SUM so far; and one ahead the ONE that was read last. */
        final Sum[] totals = new Sum[MOST_OPEN + 2];
        private final Sum[] sides = new Sum[MOST_OPEN + 1];
        private final int[] tape = new int[TAPE_ROOM];
        private int at;
        private final Box box;
        private final Multiplier multiplier;

        Reader(Box box, Multiplier multiplier) {
            this.box = box;
            this.multiplier = multiplier;
            for (int level = 0; level < totals.length; level++) {
                totals[level] = new Sum();
            }
            for (int level = 0; level < sides.length; level++) {
                sides[level] = new Sum();
            }
        }

        void append(int b) {
            if (size < TAPE_ROOM) {
                tape[size] = b;
                size++;
            }
        }

        /** Reads on behind what is SPENT, as a FAULT may come there, which is told ahead of it. */
        void readTape() {
            at = 0;
            fault = NONE;
            spent = false;
            int all = readSum(0);
            if (at < size) {
                fail(at);
            }
            if (fault == NONE) {
                parts = all;
            }
            size = 0;
        }

        private int readSum(int level) {
            int all = readProduct(level);
            totals[level].become(sides[level]);
            for (int n = 0; n < TAPE_ROOM && (sees('+') || sees('-')); n++) {
                int sign = sees('+') ? 1 : -1;
                at++;
                all += 1 + readProduct(level);
                if (goesOn()) {
                    spent = !totals[level].added(sides[level], sign);
                }
            }
            return all;
        }

        private int readProduct(int level) {
            int all = readOne(level);
            sides[level].become(totals[level + 1]);
            for (int n = 0; n < TAPE_ROOM && sees('*'); n++) {
                at++;
                all = 1 + Math.max(all, readOne(level));
                if (goesOn()) {
                    spent = !multiplier.multiplied(sides[level], totals[level + 1]);
                }
            }
            return all;
        }

        private int readOne(int level) {
            if (sees('(')) {
                return readInner(level);
            }
            Sum one = totals[level + 1];
            one.clear();
            if (sees('q')) {
                at++;
                one.coefficients[MOST_SHAPES] = 1;
            } else if (sees('[')) {
                readShape(one);
            } else {
                readNumber(one);
            }
            return 1;
        }

        private int readInner(int level) {
            if (level >= MOST_OPEN) {
                fail(at);
                return 0;
            }
            at++;
            int all = readSum(level + 1);
            if (sees(')')) {
                at++;
            } else {
                fail(at);
            }
            return all;
        }

        private void readShape(Sum one) {
            int start = at;
            at++;
            int digits = 0;
            boolean zero = false;
            for (int n = 0; n < MOST_DIGITS && seesDigit(); n++) {
                zero |= tape[at] == '0';
                digits = digits * 10 + tape[at] - '0';
                at++;
            }
            int shape = zero ? NONE : box.numbered(digits);
            if (shape == NONE) {
                fail(start);
            } else if (sees(']')) {
                at++;
                one.coefficients[shape] = 1;
            } else {
                fail(at);
            }
        }

        private void readNumber(Sum one) {
            if (!seesDigit()) {
                fail(at);
            }
            int value = 0;
            for (int n = 0; n < MOST_DIGITS && seesDigit(); n++) {
                value = value * 10 + tape[at] - '0';
                at++;
            }
            one.coefficients[0] = value;
        }

        /** Nothing is seen behind a FAULT, so that all reading ends there. */
        private boolean sees(int b) {
            return fault == NONE && at < size && tape[at] == b;
        }

        private boolean seesDigit() {
            return fault == NONE && at < size && tape[at] >= '0' && tape[at] <= '9';
        }

        private boolean goesOn() {
            return fault == NONE && !spent;
        }

        private void fail(int place) {
            if (fault == NONE) {
                fault = place;
            }
        }
    }

    /** A WALK: where one is at its end, and the TURNS. */
    private static final class Walker {
        int where;
        int taken;
        private final Box box;
        private final Products products;

        Walker(Box box, Products products) {
            this.box = box;
            this.products = products;
        }

        void walk(int seed, int n) {
            where = 0;
            taken = 0;
            int z = seed;
            for (int step = 0; step < n; step++) {
                z = z * 1103515245 + 12345;
                int j = (z >>> 9) % box.shapes;
                int next = products.firstIn(where, j);
                if (next != NONE) {
                    taken += products.turnsTo(where, j, next);
                    where = next;
                }
            }
        }
    }

    /** A SHEET: its sort (NONE: it is missing) and its numbers. */
    private static final class Sheet {
        int sort = NONE;
        int size;
        final int[] items = new int[MOST_ITEMS];

        boolean isMissing() {
            return sort == NONE;
        }

        void become(int newSort, int newSize) {
            sort = newSort;
            size = newSize;
            Arrays.fill(items, 0);
        }

        boolean hasItem(int i) {
            return i >= 0 && i < size;
        }

        boolean hasStretch(int from, int n) {
            return n >= 0 && n <= size && from >= 0 && from <= size - n;
        }

        void set(int i, int v) {
            if (hasItem(i)) {
                items[i] = sort == SHORTS ? (short) v : v;
            }
        }

        /** Lengths that hooks() takes, none greater than that ahead. */
        boolean tellsRows() {
            int longest = LONGEST_TOLD;
            for (int r = 0; r < size; r++) {
                if (items[r] < 0 || items[r] > longest) {
                    return false;
                }
                longest = items[r];
            }
            return true;
        }
    }
}
