/** Counts the answers that are not as due, and puts texts on a tape. */
final class Check {
    private int wrong;

    void due(String call, int got, int want) {
        if (got != want) {
            wrong++;
            System.out.println(call + " answered " + got + ", due is " + want);
        }
    }

    void holds(String what, boolean isSo) {
        if (!isSo) {
            wrong++;
            System.out.println("does not hold: " + what);
        }
    }

    int wrong() {
        return wrong;
    }

    void finish(String name) {
        System.out.println(name + ": " + (wrong == 0 ? "all as due" : wrong + " not as due"));
        if (wrong != 0) {
            System.exit(1);
        }
    }

    /** Puts a text on an empty tape; its length must leave room for the blanks of the last feed. */
    static void put(ShapeJudge x, String text) {
        for (int at = 0; at < text.length(); at += 20) {
            x.feed(word(text, at), word(text, at + 4), word(text, at + 8), word(text, at + 12), word(text, at + 16));
        }
        x.end(text.length());
    }

    static int tell(ShapeJudge x, String text) {
        put(x, text);
        return x.shapes();
    }

    static int word(String text, int at) {
        int sum = 0;
        for (int i = at; i < at + 4; i++) {
            sum = sum << 8 | (i < text.length() ? text.charAt(i) & 255 : ' ');
        }
        return sum;
    }
}
