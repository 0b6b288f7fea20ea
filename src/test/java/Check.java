/** Counts the answers that are not as due. */
final class Check {
    private final String name;
    private int asked = 0;
    private int wrong = 0;

    Check(String name) {
        this.name = name;
    }

    void due(String call, long got, long want) {
        asked++;
        if (got != want) {
            wrong++;
            if (wrong <= 40) {
                System.out.println(name + ": " + call + " answered " + got + ", due is " + want);
            }
        }
    }

    void holds(String what, boolean so) {
        due(what, so ? 1 : 0, 1);
    }

    boolean clean() {
        return wrong == 0;
    }

    /** Ends the run with exit code 1, if an answer was not as due. */
    void end() {
        System.out.println(name + ": " + asked + " answers, " + wrong + " not as due");
        if (wrong != 0) {
            System.exit(1);
        }
    }

    /** Feeds a text byte by byte groups; the tape is taken to have room. */
    static void feed(HookBoxes x, String text) {
        for (int k = 0; k < text.length(); k += 5) {
            int n = Math.min(5, text.length() - k);
            int[] b = new int[5];
            for (int t = 0; t < n; t++) {
                b[t] = text.charAt(k + t);
            }
            x.feed(n, b[0], b[1], b[2], b[3], b[4]);
        }
    }

    static int read(HookBoxes x, String text) {
        feed(x, text);
        return x.read();
    }

    /** A sheet of ints that tells just these numbers. */
    static void tell(HookBoxes x, int sheet, int... numbers) {
        x.sheet(sheet, 1, numbers.length);
        for (int t = 0; t < numbers.length; t++) {
            x.put(sheet, t, numbers[t]);
        }
    }
}
