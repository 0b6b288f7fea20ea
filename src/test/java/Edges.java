import java.util.ArrayList;
import java.util.List;

/** Tests of single sentences of the document, each upon an object of its own; tells which of them do not hold. */
final class Edges {
    /** A test of one sentence. */
    interface Edge {
        void look(HookBoxes x, Check c);
    }

    private final String name;
    private final List<String> broken = new ArrayList<>();
    private int many = 0;

    Edges(String name) {
        this.name = name;
    }

    void edge(String sentence, Edge test) {
        Check c = new Check(name + ": " + sentence);
        test.look(new HookBoxes(), c);
        many++;
        if (!c.clean()) {
            broken.add(sentence);
        }
    }

    /** Ends the run with exit code 1, if a sentence does not hold. */
    void end() {
        System.out.println(name + ": " + many + " sentences, " + broken.size() + " that do not hold");
        for (String sentence : broken) {
            System.out.println("  " + sentence);
        }
        if (!broken.isEmpty()) {
            System.exit(1);
        }
    }

    /** All that can be asked without changing anything, but for what the sheets tell; for boxes of few shapes. */
    static String state(HookBoxes x) {
        StringBuilder s = new StringBuilder();
        for (int what = 0; what < 6; what++) {
            s.append(x.count(what)).append(' ');
        }
        int shapes = x.count(0);
        for (int d = 0; d < 8; d++) {
            for (int l = 0; l < shapes; l++) {
                s.append(x.term(d, l)).append(' ');
            }
        }
        for (int sheet = 0; sheet < 4; sheet++) {
            s.append(form(x, sheet)).append(' ');
        }
        return s.toString();
    }

    /** The sort and the size of a sheet: shorts7, ints0, missing. */
    static String form(HookBoxes x, int sheet) {
        int asShorts = x.load(sheet, 0, 0, 0);
        if (asShorts == -11) {
            return "missing";
        }
        int size = 0;
        while (size < 100 && x.copy(sheet, 0, sheet, 0, size + 1) == size + 1) {
            size++;
        }
        return (asShorts == 0 ? "shorts" : "ints") + size;
    }

    /** What a sheet tells from item 0 on; THE SUM changes by it. */
    static String told(HookBoxes x, int sheet, int sort, int n) {
        StringBuilder s = new StringBuilder();
        for (int t = 0; t < n; t++) {
            x.load(sheet, sort, t, 1);
            s.append(t == 0 ? "" : " ").append(x.term(0, 0));
        }
        return s.toString();
    }
}
