import java.util.ArrayList;
import java.util.List;
import java.util.function.Supplier;

/** Counts the answers that are not as due, and puts texts on a tape. */
final class Check {
    private int wrong;
    private String sentence = "";

    /** The document's words that what follows would show to be broken. */
    void sentence(String words) {
        sentence = words + ": ";
    }

    void due(String call, int got, int want) {
        if (got != want) {
            wrong++;
            System.out.println(sentence + call + " answered " + got + ", due is " + want);
        }
    }

    void holds(String what, boolean isSo) {
        if (!isSo) {
            wrong++;
            System.out.println(sentence + "does not hold: " + what);
        }
    }

    /** An object that has been told a text, with so many NODES, whose VALUES are their numbers. */
    ShapeJudge judge(String text, int nodes) {
        ShapeJudge x = new ShapeJudge();
        holds("told without FAULT: " + text, tell(x, text) > 0 && x.fault() == 0);
        for (int n = 0; n < nodes; n++) {
            x.node(true, n);
        }
        return x;
    }

    int wrong() {
        return wrong;
    }

    void finish(String name) {
        System.out.println(name + ": " + (wrong == 0 ? "all as due" : wrong + " not as due"));
        if (wrong != 0) {
            System.exit(1);
        }
    }

    /** Puts a text on an empty tape; its length must leave room for the blanks of the last feed. */
    static void put(ShapeJudge x, String text) {
        for (int at = 0; at < text.length(); at += 20) {
            x.feed(word(text, at), word(text, at + 4), word(text, at + 8), word(text, at + 12), word(text, at + 16));
        }
        x.end(text.length());
    }

    static int tell(ShapeJudge x, String text) {
        put(x, text);
        return x.shapes();
    }

    static int word(String text, int at) {
        int sum = 0;
        for (int i = at; i < at + 4; i++) {
            sum = sum << 8 | (i < text.length() ? text.charAt(i) & 255 : ' ');
        }
        return sum;
    }

    /**
     * All that can be asked of the objects that a maker makes, but the bytes on the tape; what differs was
     * changed. Each NODE asks an object of its own, as one is not promised for more than 512 calls.
     */
    static List<Integer> state(Supplier<ShapeJudge> maker) {
        List<Integer> state = new ArrayList<>();
        addShapes(state, maker.get());
        for (int n = 0; n < 10; n++) {
            addNode(state, maker.get(), n);
        }
        return state;
    }

    private static void addShapes(List<Integer> state, ShapeJudge x) {
        state.add(x.fault());
        for (int what = 0; what < 6; what++) {
            state.add(x.count(what));
        }
        for (int s = 0; s < 6; s++) {
            state.add(x.all(s));
            for (int i = 0; i < 6; i++) {
                state.add(x.depends(s, i));
                state.add(x.told(s, i));
                for (int what = 0; what < 4; what++) {
                    state.add(x.part(s, i, what));
                }
            }
        }
    }

    private static void addNode(List<Integer> state, ShapeJudge x, int n) {
        for (int i = 0; i < 5; i++) {
            state.add(x.from(n, i, 0));
            state.add(x.from(n, i, 1));
        }
        for (int s = 0; s < 6; s++) {
            state.add(x.fits(n, s));
            state.add(x.surely(n, s));
            state.add(x.wanted(n, s));
            state.add(x.tooMany(n, s));
            state.add(x.which(n, s));
            for (int i = 0; i < 5; i++) {
                state.add(x.dealt(n, s, i));
            }
        }
    }
}
