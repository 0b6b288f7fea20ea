/** A test for each sentence on lots, what was told, the image and the host (promises 18 to 28) that names an edge. */
public final class EdgesOfHostTest {
    private static final Edges ALL = new Edges("EdgesOfHostTest");
    private static final int LEAST = Integer.MIN_VALUE, GREATEST = Integer.MAX_VALUE;

    public static void main(String[] args) {
        drawn();
        chance();
        tells();
        film();
        image();
        load();
        count();
        sheet();
        put();
        copy();
        refusals();
        lastCall();
        ALL.end();
    }

    /** The walk as the document tells it, by times() of an object of its own: where, and the turns. */
    private static int[] walked(HookBoxes x, int seed, int n) {
        int z = seed;
        int where = 0;
        int turns = 0;
        for (int step = 0; step < n; step++) {
            z = z * 1103515245 + 12345;
            int j = (z >>> 9) % x.count(0);
            int next = 0;
            while (next < x.count(0) && x.times(where, j, next, 0) == 0) {
                next++;
            }
            turns += x.times(where, j, next, 1);
            where = next;
        }
        return new int[] {where, turns};
    }

    private static void walks(Check c, HookBoxes x, int seed, int n) {
        HookBoxes y = new HookBoxes();
        y.box(x.count(1), x.count(2));
        int[] want = walked(y, seed, n);
        c.due("drawn(" + seed + ", " + n + ", 0)", x.drawn(seed, n, 0), want[0]);
        c.due("drawn(" + seed + ", " + n + ", 1)", x.drawn(seed, n, 1), want[1]);
    }

    private static void drawn() {
        ALL.edge("18: WALK of 0: from SHAPE 0", (x, c) -> {
            for (int seed : new int[] {0, 1, -1, LEAST, GREATEST}) {
                c.due("drawn(" + seed + ", 0, 0)", x.drawn(seed, 0, 0), 0);
                c.due("drawn(" + seed + ", 0, 1)", x.drawn(seed, 0, 1), 0);
            }
        });
        ALL.edge("18: WALK of 1: z is drawn ahead of the first step", (x, c) -> {
            // 1 * 1103515245 + 12345 = 1103527590, by 512 2155327, by 6 the rest is 1
            c.due("drawn(1, 1, 0)", x.drawn(1, 1, 0), 1);
            // 12345 by 512 is 24, the rest 0
            c.due("drawn(0, 1, 0)", x.drawn(0, 1, 0), 0);
        });
        ALL.edge("18: WALK: z is an int, >>> is without its sign", (x, c) -> {
            // 2 * 1103515245 + 12345 wraps round to -2087924461; >>> 9 is 4310630, the rest 2
            c.due("drawn(2, 1, 0)", x.drawn(2, 1, 0), 2);
            walks(c, x, 2, 6);
            walks(c, x, -1, 6);
        });
        ALL.edge("18: WALK by the least SEED, by the greatest", (x, c) -> {
            walks(c, x, LEAST, 5);
            walks(c, x, GREATEST, 5);
        });
        ALL.edge("18: n is 0 .. 40", (x, c) -> {
            x.box(1, 7);
            walks(c, x, 5, 40);
            for (int bad : new int[] {-1, 41, LEAST, GREATEST}) {
                c.due("drawn(5, " + bad + ", 0)", x.drawn(5, bad, 0), -2);
                c.due("drawn(5, " + bad + ", 1)", x.drawn(5, bad, 1), -2);
            }
        });
        ALL.edge("18: what is 0, 1", (x, c) -> {
            for (int bad : new int[] {-1, 2, LEAST, GREATEST}) {
                c.due("drawn(5, 3, " + bad + ")", x.drawn(5, 3, bad), -2);
            }
        });
        ALL.edge("18: WALK: % how many there are, of the box that is there now", (x, c) -> {
            x.box(1, 2);
            walks(c, x, 77, 30);
            x.box(4, 5);
            walks(c, x, 77, 30);
        });
        ALL.edge("18: WALK: that is in it OFTEN (not 0)", (x, c) -> {
            // from [] one goes to the SHAPE that is drawn, not to another one of that SIZE or round
            boolean[] seen = new boolean[6];
            for (int seed = 0; seed < 40; seed++) {
                int j = ((seed * 1103515245 + 12345) >>> 9) % 6;
                seen[j] = true;
                c.due("drawn(" + seed + ", 1, 0)", x.drawn(seed, 1, 0), j);
                c.due("drawn(" + seed + ", 1, 1)", x.drawn(seed, 1, 1), 0);
            }
            c.holds("each SHAPE is drawn", seen[0] && seen[1] && seen[2] && seen[3] && seen[4] && seen[5]);
        });
        ALL.edge("18: WALK: the first SHAPE by number that is in it, also one that is more often round", (x, c) -> {
            // from [1] with [21]: [] is the first, round once, [22] is the other
            int found = 0;
            for (int seed = 0; seed < 2000; seed++) {
                int z = seed * 1103515245 + 12345;
                int z2 = z * 1103515245 + 12345;
                if ((z >>> 9) % 6 == 1 && (z2 >>> 9) % 6 == 4 && found < 20) {
                    found++;
                    c.due("drawn(" + seed + ", 2, 0)", x.drawn(seed, 2, 0), 0);
                    c.due("drawn(" + seed + ", 2, 1)", x.drawn(seed, 2, 1), 1);
                }
            }
            c.holds("there are such seeds", found > 0);
        });
    }

    private static void chance() {
        ALL.edge("19: (0 by 1)", (x, c) -> {
            c.due("above", x.chance(1, 20, 40, GREATEST, 0), 0);
            c.due("below", x.chance(1, 20, 40, GREATEST, 1), 1);
            c.due("above, of no step", x.chance(1, 6, 0, 1, 0), 0);
            c.due("below, of no step", x.chance(1, 6, 0, 1, 1), 1);
        });
        ALL.edge("19: all of them: 1 by 1", (x, c) -> {
            c.due("above", x.chance(1, 20, 0, 0, 0), 1);
            c.due("below", x.chance(1, 20, 0, 0, 1), 1);
        });
        ALL.edge("19: IN m seeds (1 .. 20)", (x, c) -> {
            c.due("1 seed", x.chance(1, 1, 3, 0, 1), 1);
            c.due("20 seeds", x.chance(1, 20, 3, 0, 1), 1);
            for (int bad : new int[] {0, 21, -1, LEAST, GREATEST}) {
                c.due(bad + " seeds", x.chance(1, bad, 3, 0, 0), -2);
                c.due(bad + " seeds", x.chance(1, bad, 3, 0, 1), -2);
            }
        });
        ALL.edge("19: n (0 .. 40)", (x, c) -> {
            c.due("n 40", x.chance(1, 2, 40, 0, 0), 1);
            for (int bad : new int[] {-1, 41, LEAST, GREATEST}) {
                c.due("n " + bad, x.chance(1, 2, bad, 0, 0), -2);
            }
        });
        ALL.edge("19: d (0 or more)", (x, c) -> {
            c.due("d 0", x.chance(1, 2, 3, 0, 0), 1);
            c.due("d greatest", x.chance(1, 2, 3, GREATEST, 0), 0);
            c.due("d -1", x.chance(1, 2, 3, -1, 0), -2);
            c.due("d least", x.chance(1, 2, 3, LEAST, 1), -2);
        });
        ALL.edge("19: part 0, 1", (x, c) -> {
            for (int bad : new int[] {-1, 2, LEAST, GREATEST}) {
                c.due("part " + bad, x.chance(1, 2, 3, 0, bad), -2);
            }
        });
        ALL.edge("19: by which TURNS are d or more: just d, too", (x, c) -> {
            for (int seed = 0; seed < 20; seed++) {
                int turns = x.drawn(seed, 12, 1);
                c.due("d " + turns, x.chance(seed, 1, 12, turns, 0), 1);
                c.due("d " + (turns + 1), x.chance(seed, 1, 12, turns + 1, 0), 0);
            }
        });
        ALL.edge("19: in lowest terms", (x, c) -> {
            for (int seed = 0; seed < 12; seed++) {
                int above = 0;
                for (int s = 0; s < 20; s++) {
                    above += x.drawn(seed + s, 10, 1) >= 4 ? 1 : 0;
                }
                int a = x.chance(seed, 20, 10, 4, 0);
                int b = x.chance(seed, 20, 10, 4, 1);
                c.due("above times 20", a * 20, above * b);
                for (int t = 2; t <= b; t++) {
                    c.holds(a + " by " + b + ": no " + t + " in both", a % t != 0 || b % t != 0);
                }
            }
        });
        ALL.edge("19: SEED and each 1 more (an int): wraps round", (x, c) -> {
            for (int d = 0; d < 12; d++) {
                int above = (x.drawn(GREATEST, 15, 1) >= d ? 1 : 0) + (x.drawn(LEAST, 15, 1) >= d ? 1 : 0)
                    + (x.drawn(LEAST + 1, 15, 1) >= d ? 1 : 0);
                c.due("above, d " + d, x.chance(GREATEST, 3, 15, d, 0), above == 3 ? 1 : above);
                c.due("below, d " + d, x.chance(GREATEST, 3, 15, d, 1), above % 3 == 0 ? 1 : 3);
            }
        });
    }

    private static void tells() {
        ALL.edge("20: NONE: all is so", (x, c) -> {
            Check.tell(x, 0, 0, 0, 1, 1, 0, 0);
            c.due("tells(0, 1, 1)", x.tells(0, 1, 1), -1);
        });
        ALL.edge("20: the first that is otherwise: the first, the last of all", (x, c) -> {
            Check.tell(x, 0, 1, 0, 1, 1, 0, 1);
            c.due("tells(0, 1, 1)", x.tells(0, 1, 1), 0);
            x.put(0, 0, 0);
            c.due("tells(0, 1, 1)", x.tells(0, 1, 1), 5);
        });
        ALL.edge("20: also one that is no SHAPE", (x, c) -> {
            Check.tell(x, 0, 0, 0, 1, 1, 0, 0, 0);
            c.due("tells(0, 1, 1)", x.tells(0, 1, 1), 6);
            Check.tell(x, 0, 0, 0, 1, 1, 0, 0, 5, 0);
            c.due("tells(0, 1, 1)", x.tells(0, 1, 1), 6);
            x.sheet(1, 0, 40);
            x.box(4, 7);
            x.put(1, 0, 1);
            c.due("tells(1, 0, 0)", x.tells(1, 0, 0), 35);
        });
        ALL.edge("20: a SHEET that tells fewer is not otherwise by that", (x, c) -> {
            Check.tell(x, 0, 0, 0, 1);
            c.due("tells(0, 1, 1)", x.tells(0, 1, 1), -1);
            Check.tell(x, 0);
            c.due("of none", x.tells(0, 1, 1), -1);
        });
        ALL.edge("20: -11", (x, c) -> {
            for (int s = 0; s < 4; s++) {
                c.due("tells(" + s + ", 0, 0)", x.tells(s, 0, 0), -11);
            }
        });
        ALL.edge("20: BAD: SHEET, i, j", (x, c) -> {
            x.sheet(0, 1, 1);
            for (int bad : new int[] {-1, 4, LEAST, GREATEST}) {
                c.due("tells(" + bad + ", 0, 0)", x.tells(bad, 0, 0), -2);
            }
            for (int bad : new int[] {-1, 6, LEAST, GREATEST, 1 << 30}) {
                c.due("tells(0, " + bad + ", 0)", x.tells(0, bad, 0), -2);
                c.due("tells(0, 0, " + bad + ")", x.tells(0, 0, bad), -2);
            }
        });
        ALL.edge("20: BAD ahead of -11", (x, c) -> {
            c.due("tells(3, 6, 0)", x.tells(3, 6, 0), -2);
            c.due("tells(3, 0, -1)", x.tells(3, 0, -1), -2);
        });
    }

    private static void film() {
        ALL.edge("21: a SHEET that was missing", (x, c) -> {
            c.due("film(3, 1, 1)", x.film(3, 1, 1), 6);
            c.holds("six shorts", Edges.form(x, 3).equals("shorts6"));
            c.holds("as told", Edges.told(x, 3, 0, 6).equals("0 0 1 1 0 0"));
        });
        ALL.edge("21: (shorts): also of a SHEET of ints, of a longer one, of a shorter one", (x, c) -> {
            for (int n : new int[] {0, 5, 6, 40}) {
                x.sheet(0, 1, n);
                c.due("film(0, 4, 4)", x.film(0, 4, 4), 6);
                c.holds("six shorts", Edges.form(x, 0).equals("shorts6"));
            }
            c.holds("as told", Edges.told(x, 0, 0, 6).equals("0 0 1 1 0 0"));
        });
        ALL.edge("21: truly: what it had is gone", (x, c) -> {
            Check.tell(x, 0, 9, 9, 9, 9, 9, 9);
            x.film(0, 1, 0);
            c.holds("as told", Edges.told(x, 0, 0, 6).equals("0 1 0 0 0 0"));
        });
        ALL.edge("21: OFTEN of the first SHAPE, of the last one", (x, c) -> {
            x.film(0, 4, 1);
            c.holds("as told", Edges.told(x, 0, 0, 6).equals("1 0 0 0 0 1"));
        });
        ALL.edge("21: all SHAPES of the least box, of the greatest", (x, c) -> {
            x.box(1, 2);
            c.due("film(0, 1, 1)", x.film(0, 1, 1), 2);
            c.holds("two", Edges.form(x, 0).equals("shorts2"));
            x.box(3, 7);
            c.due("film(0, 34, 34)", x.film(0, 34, 34), 35);
            c.holds("35", Edges.form(x, 0).equals("shorts35"));
        });
        ALL.edge("21: BAD", (x, c) -> {
            Check.tell(x, 0, 7, 8);
            for (int bad : new int[] {-1, 4, LEAST, GREATEST}) {
                c.due("film(" + bad + ", 0, 0)", x.film(bad, 0, 0), -2);
            }
            for (int bad : new int[] {-1, 6, LEAST, GREATEST, 1 << 30}) {
                c.due("film(0, " + bad + ", 0)", x.film(0, bad, 0), -2);
                c.due("film(0, 0, " + bad + ")", x.film(0, 0, bad), -2);
                c.due("film(1, " + bad + ", 0)", x.film(1, bad, 0), -2);
            }
            c.holds("it stays", Edges.form(x, 0).equals("ints2"));
            c.holds("it stays missing", Edges.form(x, 1).equals("missing"));
            c.holds("it tells what it told", Edges.told(x, 0, 1, 2).equals("7 8"));
        });
    }

    private static void image() {
        ALL.edge("22: how many SHAPES, and nothing else changes", (x, c) -> {
            Check.read(x, "3+q*[21]");
            Check.feed(x, "12");
            x.sheet(2, 0, 3);
            String state = Edges.state(x);
            c.due("image()", x.image(), 6);
            c.holds("all is as it was", Edges.state(x).equals(state));
            x.box(4, 7);
            c.due("image()", x.image(), 35);
        });
        ALL.edge("23: STATE: there is none", (x, c) -> {
            Check.read(x, "3+q*[21]");
            String state = Edges.state(x);
            c.due("back()", x.back(), -3);
            c.holds("all is as it was", Edges.state(x).equals(state));
        });
        ALL.edge("23: all that it keeps is as in THE IMAGE: THE BOX, THE SUM", (x, c) -> {
            Check.read(x, "3+" + "q*q*q*q*q*q*q*[22]");
            x.image();
            x.box(4, 7);
            Check.read(x, "[3333]+q*5");
            c.due("back()", x.back(), 6);
            c.due("count(1)", x.count(1), 2);
            c.due("count(2)", x.count(2), 4);
            c.due("count(3)", x.count(3), 2);
            c.due("term(0, 0)", x.term(0, 0), 3);
            c.due("term(7, 5)", x.term(7, 5), 1);
            c.due("term(1, 0)", x.term(1, 0), 0);
        });
        ALL.edge("23: back into the same box: THE SUM alone", (x, c) -> {
            Check.read(x, "3");
            x.image();
            Check.read(x, "[1]");
            c.due("back()", x.back(), 6);
            c.due("term(0, 0)", x.term(0, 0), 3);
            c.due("term(0, 1)", x.term(0, 1), 0);
        });
        ALL.edge("23: AN IMAGE keeps no more: THE TAPE, SHEETS, PARTS stay as they are", (x, c) -> {
            Check.read(x, "1+2");
            Check.feed(x, "12");
            x.sheet(0, 0, 5);
            x.image();
            x.read();
            Check.feed(x, "7");
            x.sheet(0, 1, 3);
            x.sheet(1, 1, 2);
            x.back();
            c.due("count(4)", x.count(4), 1);
            c.due("count(5)", x.count(5), 1);
            c.holds("sheet 0", Edges.form(x, 0).equals("ints3"));
            c.holds("sheet 1", Edges.form(x, 1).equals("ints2"));
            c.due("term(0, 0)", x.term(0, 0), 3);
        });
        ALL.edge("23: it stays, and may be laid back again", (x, c) -> {
            Check.read(x, "3");
            x.image();
            for (int again = 0; again < 3; again++) {
                x.box(3, 6);
                Check.read(x, "[321]");
                c.due("back()", x.back(), 6);
                c.due("term(0, 0)", x.term(0, 0), 3);
                c.due("multiply(1)", x.multiply(1), 1);
            }
        });
        ALL.edge("22: another IMAGE takes the place of the one that was", (x, c) -> {
            Check.read(x, "3");
            x.image();
            x.box(1, 2);
            Check.read(x, "[1]");
            x.image();
            x.box(4, 7);
            c.due("back()", x.back(), 2);
            c.due("term(0, 1)", x.term(0, 1), 1);
            c.due("term(0, 0)", x.term(0, 0), 0);
        });
        ALL.edge("23: PRODUCTS are those of the box that is back", (x, c) -> {
            c.due("[1] [1]: [2]", x.times(1, 1, 2, 0), 1);
            x.image();
            x.box(1, 2);
            c.due("[1] [1]: []", x.times(1, 1, 0, 0), 1);
            x.back();
            c.due("[1] [1]: []", x.times(1, 1, 0, 0), 0);
            c.due("[1] [1]: [2]", x.times(1, 1, 2, 0), 1);
            c.due("[] rolled", x.of(0, 5), 3);
        });
    }

    private static void load() {
        ALL.edge("24: BAD: no such SHEET, sort, n", (x, c) -> {
            x.sheet(0, 1, 40);
            for (int bad : new int[] {-1, 4, LEAST, GREATEST}) {
                c.due("load(" + bad + ", 1, 0, 1)", x.load(bad, 1, 0, 1), -2);
            }
            for (int bad : new int[] {-1, 2, LEAST, GREATEST}) {
                c.due("load(0, " + bad + ", 0, 1)", x.load(0, bad, 0, 1), -2);
            }
            for (int bad : new int[] {-1, 41, LEAST, GREATEST}) {
                c.due("load(0, 1, 0, " + bad + ")", x.load(0, 1, 0, bad), -2);
            }
        });
        ALL.edge("24: BAD ahead of -11, -13, -12", (x, c) -> {
            c.due("missing", x.load(0, 2, 0, 1), -2);
            c.due("missing", x.load(0, 1, 0, 41), -2);
            x.sheet(0, 0, 1);
            c.due("another sort", x.load(0, 1, 0, -1), -2);
            c.due("a place outside", x.load(0, 0, 5, 41), -2);
        });
        ALL.edge("24: n of them (0 .. 40)", (x, c) -> {
            x.sheet(0, 1, 40);
            c.due("40, six for SHAPES", x.load(0, 1, 0, 40), 6);
            c.due("0", x.load(0, 1, 0, 0), 0);
        });
        ALL.edge("24: -11 (missing, of whatever sort it is taken for)", (x, c) -> {
            c.due("shorts", x.load(2, 0, 0, 1), -11);
            c.due("ints", x.load(2, 1, 0, 1), -11);
        });
        ALL.edge("24: -11 (also with n 0)", (x, c) -> {
            c.due("shorts", x.load(2, 0, 0, 0), -11);
            c.due("ints", x.load(2, 1, -7, 0), -11);
        });
        ALL.edge("24: -13", (x, c) -> {
            x.sheet(0, 0, 3);
            x.sheet(1, 1, 3);
            c.due("shorts taken for ints", x.load(0, 1, 0, 1), -13);
            c.due("ints taken for shorts", x.load(1, 0, 0, 1), -13);
            c.due("-13 ahead of -12", x.load(1, 0, 9, 1), -13);
        });
        ALL.edge("24: -13 (also with n 0)", (x, c) -> {
            x.sheet(0, 0, 3);
            x.sheet(1, 1, 0);
            c.due("shorts taken for ints", x.load(0, 1, 0, 0), -13);
            c.due("ints taken for shorts", x.load(1, 0, 99, 0), -13);
        });
        ALL.edge("24: n 0: 0 from wherever", (x, c) -> {
            x.sheet(0, 1, 3);
            for (int from : new int[] {0, 3, 4, -1, LEAST, GREATEST}) {
                c.due("load(0, 1, " + from + ", 0)", x.load(0, 1, from, 0), 0);
            }
            x.sheet(0, 1, 0);
            c.due("of a SHEET of none", x.load(0, 1, 0, 0), 0);
        });
        ALL.edge("24: -12: a place outside, ahead and behind", (x, c) -> {
            x.sheet(0, 1, 3);
            for (int from : new int[] {-1, 3, 4, LEAST, GREATEST}) {
                c.due("load(0, 1, " + from + ", 1)", x.load(0, 1, from, 1), -12);
                c.due("load(0, 1, " + from + ", 40)", x.load(0, 1, from, 40), -12);
            }
            c.due("the last item", x.load(0, 1, 2, 1), 1);
            x.sheet(0, 1, 0);
            c.due("of a SHEET of none", x.load(0, 1, 0, 1), -12);
        });
        ALL.edge("24: -12: also where it would be for what is no SHAPE", (x, c) -> {
            x.sheet(0, 1, 7);
            c.due("load(0, 1, 0, 7)", x.load(0, 1, 0, 7), 6);
            c.due("load(0, 1, 0, 8)", x.load(0, 1, 0, 8), -12);
        });
        ALL.edge("24: -12: what stood ahead came", (x, c) -> {
            Check.read(x, "[22]*9");
            Check.tell(x, 0, 5, 6, 7);
            c.due("load(0, 1, 1, 3)", x.load(0, 1, 1, 3), -12);
            c.due("term(0, 0)", x.term(0, 0), 6);
            c.due("term(0, 1)", x.term(0, 1), 7);
            c.due("term(0, 2)", x.term(0, 2), 0);
            c.due("term(0, 5)", x.term(0, 5), 9);
        });
        ALL.edge("24: one that is beyond is left out", (x, c) -> {
            Check.read(x, "1+[1]+[2]+[11]+[21]+[22]");
            Check.tell(x, 0, 1000001, -1000001, 1000000, -1000000, LEAST, GREATEST);
            c.due("load(0, 1, 0, 6)", x.load(0, 1, 0, 6), 2);
            int[] want = {1, 1, 1000000, -1000000, 1, 1};
            for (int l = 0; l < 6; l++) {
                c.due("term(0, " + l + ")", x.term(0, l), want[l]);
            }
        });
        ALL.edge("24: one for what is no SHAPE is left out", (x, c) -> {
            Check.tell(x, 0, 1, 1, 1, 1, 1, 1, 7, 8);
            c.due("load(0, 1, 0, 8)", x.load(0, 1, 0, 8), 6);
            c.due("count(3)", x.count(3), 6);
            x.box(1, 2);
            c.due("load(0, 1, 6, 2)", x.load(0, 1, 6, 2), 2);
            c.due("load(0, 1, 5, 3)", x.load(0, 1, 5, 3), 2);
            c.due("term(0, 0)", x.term(0, 0), 1);
            c.due("term(0, 1)", x.term(0, 1), 7);
        });
        ALL.edge("24: COEFFICIENTS of 0 TURNS: those of others stay, and those not loaded", (x, c) -> {
            Check.read(x, "q*(3+[1])+[2]*4");
            Check.tell(x, 0, 0, 0);
            c.due("load(0, 1, 0, 2)", x.load(0, 1, 0, 2), 2);
            c.due("count(3)", x.count(3), 3);
        });
        ALL.edge("24: shorts come with their sign", (x, c) -> {
            x.sheet(0, 0, 2);
            x.put(0, 0, 32768);
            x.put(0, 1, 32767);
            c.due("load(0, 0, 0, 2)", x.load(0, 0, 0, 2), 2);
            c.due("term(0, 0)", x.term(0, 0), -32768);
            c.due("term(0, 1)", x.term(0, 1), 32767);
        });
    }

    private static void count() {
        ALL.edge("25: what is 0 .. 5", (x, c) -> {
            x.box(3, 5);
            Check.read(x, "1+q+[2]");
            Check.feed(x, "123");
            int[] want = {10, 3, 5, 3, 3, 5};
            for (int what = 0; what < 6; what++) {
                c.due("count(" + what + ")", x.count(what), want[what]);
            }
        });
        ALL.edge("25: BAD", (x, c) -> {
            for (int bad : new int[] {-1, 6, LEAST, GREATEST}) {
                c.due("count(" + bad + ")", x.count(bad), -2);
            }
        });
        ALL.edge("25: COEFFICIENTS that aren't 0: below 0, too, of 7 TURNS, too", (x, c) -> {
            Check.read(x, "0-[22]-q*q*q*q*q*q*q*[22]");
            c.due("count(3)", x.count(3), 2);
        });
    }

    private static void sheet() {
        ALL.edge("26: SHEETS 0 .. 3", (x, c) -> {
            c.due("sheet(0, 0, 1)", x.sheet(0, 0, 1), 1);
            c.due("sheet(3, 0, 1)", x.sheet(3, 0, 1), 1);
            for (int bad : new int[] {-1, 4, LEAST, GREATEST}) {
                c.due("sheet(" + bad + ", 0, 1)", x.sheet(bad, 0, 1), -2);
                c.due("sheet(" + bad + ", -1, 1)", x.sheet(bad, -1, 1), -2);
            }
        });
        ALL.edge("26: sort -1, 0, 1", (x, c) -> {
            for (int bad : new int[] {-2, 2, LEAST, GREATEST}) {
                c.due("sheet(0, " + bad + ", 1)", x.sheet(0, bad, 1), -2);
            }
            x.sheet(0, 0, 1);
            c.holds("shorts", Edges.form(x, 0).equals("shorts1"));
            x.sheet(0, 1, 1);
            c.holds("ints", Edges.form(x, 0).equals("ints1"));
            x.sheet(0, -1, 1);
            c.holds("missing", Edges.form(x, 0).equals("missing"));
        });
        ALL.edge("26: BAD: n above 40", (x, c) -> {
            c.due("sheet(0, 0, 40)", x.sheet(0, 0, 40), 1);
            c.due("sheet(0, 1, 40)", x.sheet(0, 1, 40), 1);
            c.holds("40", Edges.form(x, 0).equals("ints40"));
            c.due("sheet(0, 0, 41)", x.sheet(0, 0, 41), -2);
            c.due("sheet(0, 1, 41)", x.sheet(0, 1, 41), -2);
            c.due("sheet(0, 1, greatest)", x.sheet(0, 1, GREATEST), -2);
        });
        ALL.edge("26: a row of 0", (x, c) -> {
            c.due("sheet(0, 0, 0)", x.sheet(0, 0, 0), 1);
            c.holds("none, but not missing", Edges.form(x, 0).equals("shorts0"));
            c.due("put(0, 0, 1)", x.put(0, 0, 1), -12);
        });
        ALL.edge("26: -14: a size below 0", (x, c) -> {
            c.due("sheet(0, 0, -1)", x.sheet(0, 0, -1), -14);
            c.due("sheet(0, 1, -1)", x.sheet(0, 1, -1), -14);
            c.due("sheet(0, 1, least)", x.sheet(0, 1, LEAST), -14);
        });
        ALL.edge("26: BAD ahead of -14", (x, c) -> {
            c.due("sheet(4, 0, -1)", x.sheet(4, 0, -1), -2);
            c.due("sheet(0, 2, -1)", x.sheet(0, 2, -1), -2);
        });
        ALL.edge("26: refused: it stays as it was", (x, c) -> {
            Check.tell(x, 0, 7, 8);
            x.sheet(0, 0, 41);
            x.sheet(0, 0, -1);
            x.sheet(0, 2, 1);
            c.holds("two ints", Edges.form(x, 0).equals("ints2"));
            c.holds("what they were", Edges.told(x, 0, 1, 2).equals("7 8"));
        });
        ALL.edge("26: missing (sort -1: n does not matter)", (x, c) -> {
            for (int n : new int[] {0, 1, 40, 41, -1, LEAST, GREATEST}) {
                x.sheet(0, 1, 3);
                c.due("sheet(0, -1, " + n + ")", x.sheet(0, -1, n), 1);
                c.due("put(0, 0, 1)", x.put(0, 0, 1), -11);
            }
            c.due("once more", x.sheet(0, -1, 0), 1);
        });
        ALL.edge("26: all 0, also where it was another one", (x, c) -> {
            Check.tell(x, 0, 7, 8, 9);
            x.sheet(0, 1, 3);
            c.holds("the same size", Edges.told(x, 0, 1, 3).equals("0 0 0"));
            Check.tell(x, 0, 7, 8, 9);
            x.sheet(0, 0, 1);
            x.sheet(0, 1, 3);
            c.holds("smaller, greater again", Edges.told(x, 0, 1, 3).equals("0 0 0"));
            Check.tell(x, 0, 7, 8, 9);
            x.sheet(0, -1, 0);
            x.sheet(0, 1, 3);
            c.holds("missing in between", Edges.told(x, 0, 1, 3).equals("0 0 0"));
        });
    }

    private static void put() {
        ALL.edge("27: BAD: no such SHEET", (x, c) -> {
            for (int bad : new int[] {-1, 4, LEAST, GREATEST}) {
                c.due("put(" + bad + ", 0, 1)", x.put(bad, 0, 1), -2);
            }
        });
        ALL.edge("27: -11", (x, c) -> {
            for (int s = 0; s < 4; s++) {
                c.due("put(" + s + ", 0, 1)", x.put(s, 0, 1), -11);
                c.due("put(" + s + ", -1, 1): ahead of -12", x.put(s, -1, 1), -11);
            }
        });
        ALL.edge("27: -12", (x, c) -> {
            x.sheet(0, 1, 3);
            c.due("put(0, 0, 7)", x.put(0, 0, 7), 1);
            c.due("put(0, 2, 9)", x.put(0, 2, 9), 1);
            for (int i : new int[] {-1, 3, 39, 40, LEAST, GREATEST}) {
                c.due("put(0, " + i + ", 1)", x.put(0, i, 1), -12);
            }
            c.holds("nothing else changes", Edges.told(x, 0, 1, 3).equals("7 0 9"));
        });
        ALL.edge("27: (of shorts its lowest 16 bits)", (x, c) -> {
            x.sheet(0, 0, 6);
            int[] v = {32767, 32768, 65535, 65536, -32769, LEAST + 5};
            for (int t = 0; t < 6; t++) {
                c.due("put of " + v[t], x.put(0, t, v[t]), 1);
            }
            c.holds("lowest 16 bits", Edges.told(x, 0, 0, 6).equals("32767 -32768 -1 0 32767 5"));
        });
        ALL.edge("27: of ints all of it", (x, c) -> {
            x.sheet(0, 1, 3);
            x.put(0, 0, 65536);
            x.put(0, 1, -1000000);
            x.put(0, 2, GREATEST);
            c.holds("all bits", Edges.told(x, 0, 1, 2).equals("65536 -1000000"));
            c.due("the greatest is beyond, not -1", x.load(0, 1, 2, 1), 0);
        });
    }

    private static void copy() {
        ALL.edge("28: BAD: no such SHEET", (x, c) -> {
            x.sheet(0, 1, 3);
            for (int bad : new int[] {-1, 4, LEAST, GREATEST}) {
                c.due("copy(" + bad + ", 0, 0, 0, 1)", x.copy(bad, 0, 0, 0, 1), -2);
                c.due("copy(0, 0, " + bad + ", 0, 1)", x.copy(0, 0, bad, 0, 1), -2);
                c.due("copy(1, 0, " + bad + ", 0, 1): ahead of -11", x.copy(1, 0, bad, 0, 1), -2);
            }
        });
        ALL.edge("28: -11", (x, c) -> {
            x.sheet(0, 1, 3);
            c.due("from one that is missing", x.copy(1, 0, 0, 0, 1), -11);
            c.due("to one that is missing", x.copy(0, 0, 1, 0, 1), -11);
            c.due("both", x.copy(1, 0, 1, 0, 0), -11);
            c.due("ahead of -12", x.copy(0, 9, 1, 9, -1), -11);
        });
        ALL.edge("28: -13: they are of unlike sorts", (x, c) -> {
            x.sheet(0, 0, 3);
            x.sheet(1, 1, 3);
            c.due("shorts to ints", x.copy(0, 0, 1, 0, 1), -13);
            c.due("ints to shorts", x.copy(1, 0, 0, 0, 1), -13);
            c.due("also with n 0", x.copy(1, 0, 0, 0, 0), -13);
            c.due("ahead of -12", x.copy(1, 9, 0, 9, -1), -13);
        });
        ALL.edge("28: -12 (also with n below 0)", (x, c) -> {
            x.sheet(0, 1, 3);
            x.sheet(1, 1, 3);
            c.due("n -1", x.copy(0, 0, 1, 0, -1), -12);
            c.due("n -1 from within", x.copy(0, 2, 1, 2, -1), -12);
            c.due("n least", x.copy(0, 0, 1, 0, LEAST), -12);
        });
        ALL.edge("28: -12: a place outside of the one", (x, c) -> {
            x.sheet(0, 1, 3);
            x.sheet(1, 1, 40);
            for (int i : new int[] {-1, 1, 3, 4, LEAST, GREATEST}) {
                c.due("copy(0, " + i + ", 1, 0, 3)", x.copy(0, i, 1, 0, 3), -12);
            }
            c.due("copy(0, 0, 1, 0, 4)", x.copy(0, 0, 1, 0, 4), -12);
            c.due("copy(0, 0, 1, 0, greatest)", x.copy(0, 0, 1, 0, GREATEST), -12);
            c.due("copy(0, 1, 1, 1, greatest)", x.copy(0, 1, 1, 1, GREATEST), -12);
            c.due("copy(0, 0, 1, 0, 3)", x.copy(0, 0, 1, 0, 3), 3);
            c.due("copy(0, 2, 1, 39, 1)", x.copy(0, 2, 1, 39, 1), 1);
        });
        ALL.edge("28: -12: a place outside of the other one", (x, c) -> {
            x.sheet(0, 1, 40);
            x.sheet(1, 1, 3);
            for (int j : new int[] {-1, 1, 3, 4, LEAST, GREATEST}) {
                c.due("copy(0, 0, 1, " + j + ", 3)", x.copy(0, 0, 1, j, 3), -12);
            }
            c.due("copy(0, 0, 1, 0, 4)", x.copy(0, 0, 1, 0, 4), -12);
            c.due("copy(0, 0, 1, 0, 3)", x.copy(0, 0, 1, 0, 3), 3);
        });
        ALL.edge("28: -12: none of the n came", (x, c) -> {
            Check.tell(x, 0, 1, 2, 3);
            Check.tell(x, 1, 7, 8, 9);
            x.copy(0, 0, 1, 1, 3);
            x.copy(0, 1, 1, 0, 3);
            c.holds("as it was", Edges.told(x, 1, 1, 3).equals("7 8 9"));
        });
        ALL.edge("28: n 0, up to the end itself", (x, c) -> {
            x.sheet(0, 1, 3);
            x.sheet(1, 1, 0);
            c.due("copy(0, 0, 1, 0, 0)", x.copy(0, 0, 1, 0, 0), 0);
            c.due("copy(0, 3, 1, 0, 0)", x.copy(0, 3, 1, 0, 0), 0);
            c.due("copy(0, 4, 1, 0, 0)", x.copy(0, 4, 1, 0, 0), -12);
            c.due("copy(0, -1, 1, 0, 0)", x.copy(0, -1, 1, 0, 0), -12);
            c.due("copy(0, 0, 1, 1, 0)", x.copy(0, 0, 1, 1, 0), -12);
            c.due("copy(0, 0, 1, -1, 0)", x.copy(0, 0, 1, -1, 0), -12);
        });
        ALL.edge("28: (as they were): onto itself, upward", (x, c) -> {
            Check.tell(x, 0, 1, 2, 3, 4);
            c.due("copy(0, 0, 0, 1, 3)", x.copy(0, 0, 0, 1, 3), 3);
            c.holds("1 1 2 3", Edges.told(x, 0, 1, 4).equals("1 1 2 3"));
        });
        ALL.edge("28: (as they were): onto itself, downward", (x, c) -> {
            Check.tell(x, 0, 1, 2, 3, 4);
            c.due("copy(0, 1, 0, 0, 3)", x.copy(0, 1, 0, 0, 3), 3);
            c.holds("2 3 4 4", Edges.told(x, 0, 1, 4).equals("2 3 4 4"));
        });
        ALL.edge("28: all of 40", (x, c) -> {
            x.sheet(0, 0, 40);
            x.sheet(1, 0, 40);
            x.put(0, 39, -5);
            c.due("copy(0, 0, 1, 0, 40)", x.copy(0, 0, 1, 0, 40), 40);
            x.load(1, 0, 39, 1);
            c.due("the last one", x.term(0, 0), -5);
        });
    }

    private static void refusals() {
        ALL.edge("Refusals change nothing (drawn, chance, tells, film, load, sheet, put, copy)", (x, c) -> {
            Check.read(x, "3+q*[21]-[1]");
            Check.feed(x, "12");
            x.sheet(0, 0, 2);
            x.sheet(1, 1, 3);
            String state = Edges.state(x);
            x.drawn(1, 41, 0);
            x.chance(1, 21, 1, 1, 0);
            x.tells(0, 6, 0);
            x.film(0, 6, 0);
            x.film(3, 0, 6);
            x.load(0, 1, 0, 1);
            x.load(1, 1, 3, 1);
            x.count(6);
            x.sheet(0, 0, 41);
            x.sheet(1, 1, -1);
            x.sheet(2, 2, 1);
            x.put(0, 2, 1);
            x.put(2, 0, 1);
            x.copy(0, 0, 1, 0, 1);
            x.copy(1, 0, 1, 1, 3);
            c.holds("all is as it was", Edges.state(x).equals(state));
        });
        ALL.edge("What is asked changes nothing (drawn, chance, tells, count)", (x, c) -> {
            Check.read(x, "3+q*[21]-[1]");
            Check.feed(x, "12");
            x.sheet(0, 0, 2);
            x.sheet(1, 1, 3);
            String state = Edges.state(x);
            x.drawn(1, 40, 0);
            x.chance(1, 20, 40, 1, 0);
            x.tells(0, 1, 1);
            x.tells(1, 0, 0);
            x.count(3);
            c.holds("all is as it was", Edges.state(x).equals(state));
        });
    }

    private static void lastCall() {
        ALL.edge("An object is used for at most 512 calls: the last one answers as the first", (x, c) -> {
            for (int call = 1; call <= 511; call++) {
                if (call % 4 != 0) {
                    x.feed(1, call % 4 == 2 ? '*' : 'q', 0, 0, 0, 0);
                } else {
                    c.due("read() by call " + call, x.read(), 1);
                }
            }
            c.due("count(3) by call 512", x.count(3), 1);
        });
    }
}
