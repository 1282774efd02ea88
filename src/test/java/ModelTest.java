/** Holds ShapeJudge against Model, call by call, over runs that a fixed seed makes. */
public final class ModelTest {
    private static final int RUNS = 400;
    private static final int CALLS = 512;
    private static final int SHOWN = 20;

    private final Check check = new Check();
    private long seed;
    private ShapeJudge x;
    private Model model;
    private int run;
    private int edgeWish;
    private int names;
    private String lastText = "";
    private int told;
    private final int[] faultsMet = new int[8];
    private int fitting;
    private int surelyLess;
    private int bySurplus;

    public static void main(String[] args) {
        ModelTest test = new ModelTest();
        int runs = args.length > 0 ? Integer.parseInt(args[0]) : RUNS;
        for (int run = 1; run <= runs && test.check.wrong() < SHOWN; run++) {
            test.makeRun(run);
        }
        test.lookAtReach();
        test.check.finish("ModelTest");
    }

    /** The runs are worth little if they miss what is rare. */
    private void lookAtReach() {
        for (int kind = 1; kind <= 7; kind++) {
            check.holds("FAULT " + kind + " was met often: " + faultsMet[kind], faultsMet[kind] >= 30);
        }
        check.holds("texts were told: " + told, told > RUNS);
        check.holds("NODES did FIT: " + fitting, fitting > RUNS);
        check.holds("some did not SURELY: " + surelyLess, surelyLess > RUNS / 10);
        check.holds("some had too many EDGES: " + bySurplus, bySurplus > RUNS / 10);
    }

    private int pick(int below) {
        seed = seed * 6364136223846793005L + 1442695040888963407L;
        return (int) ((seed >>> 33) % below);
    }

    private boolean chance(int inHundred) {
        return pick(100) < inHundred;
    }

    private void makeRun(int number) {
        run = number;
        seed = number * 7919L;
        x = new ShapeJudge();
        model = new Model();
        edgeWish = 15 + pick(60);
        names = 1 + pick(4);
        int calls = 0;
        while (calls < CALLS - 60 && check.wrong() < SHOWN) {
            calls += chance(12) ? tellText() : chance(edgeWish) ? change() : ask();
        }
    }

    private int due(String call, int got, int want) {
        check.due("run " + run + ", " + lastText + ": " + call, got, want);
        return want;
    }

    // ---- the graph ----

    private int some(int usual) {
        return chance(2) ? pick(14) - 2 : pick(usual);
    }

    private int change() {
        int nodes = Math.max(1, model.count(0));
        int a = some(nodes);
        int b = some(names);
        int c = some(nodes);
        switch (pick(chance(3) ? 14 : 13)) {
            case 0: case 1: case 2:
                boolean valued = chance(70);
                due("node", x.node(valued, b), model.node(valued, b));
                break;
            case 3:
                boolean still = chance(60);
                due("value " + a, x.value(a, still, c), model.value(a, still, c));
                break;
            case 4: case 5:
                due("cut " + a + " " + b + " " + c, x.cut(a, b, c), model.cut(a, b, c));
                break;
            case 13:
                due("reset", x.reset(), model.reset());
                break;
            default:
                due("edge " + a + " " + b + " " + c, x.edge(a, b, c), model.edge(a, b, c));
                break;
        }
        return 1;
    }

    // ---- what is asked ----

    private int ask() {
        int n = some(Math.max(1, model.count(0)));
        int s = some(Math.max(1, model.count(2)));
        int i = some(5);
        String of = " " + n + " " + s + " " + i;
        switch (pick(12)) {
            case 0:
                fitting += due("fits" + of, x.fits(n, s), model.fits(n, s));
                break;
            case 1:
                int sure = due("surely" + of, x.surely(n, s), model.surely(n, s));
                surelyLess += sure == 0 && model.fits(n, s) == 1 ? 1 : 0;
                break;
            case 2:
                due("all" + of, x.all(s), model.all(s));
                break;
            case 3:
                due("wanted" + of, x.wanted(n, s), model.wanted(n, s));
                break;
            case 4: case 5:
                due("dealt" + of, x.dealt(n, s, i), model.dealt(n, s, i));
                break;
            case 6:
                bySurplus += due("tooMany" + of, x.tooMany(n, s), model.tooMany(n, s)) > 0 ? 1 : 0;
                break;
            case 7:
                due("which" + of, x.which(n, s), model.which(n, s));
                break;
            case 8:
                due("depends" + of, x.depends(s, i), model.depends(s, i));
                break;
            case 9:
                int what = pick(6) - 1;
                due("part" + of, x.part(s, i, what), model.part(s, i, what));
                due("told" + of, x.told(s, what), model.told(s, what));
                return 2;
            case 10:
                int which = pick(4) - 1;
                due("from" + of, x.from(n, i, which), model.from(n, i, which));
                break;
            default:
                int kind = pick(8) - 1;
                due("count " + kind, x.count(kind), model.count(kind));
                break;
        }
        return 1;
    }

    // ---- texts ----

    private int tellText() {
        String text = makeText();
        for (int hits = chance(25) ? 1 + pick(3) : 0; hits > 0 && !text.isEmpty(); hits--) {
            text = spoil(text);
        }
        text = text.substring(0, Math.min(400, text.length()));
        int feeds = 0;
        for (int at = 0; at < text.length(); at += 20) {
            int a = Check.word(text, at);
            int b = Check.word(text, at + 4);
            int c = Check.word(text, at + 8);
            int d = Check.word(text, at + 12);
            int e = Check.word(text, at + 16);
            due("feed", x.feed(a, b, c, d, e), model.feed(a, b, c, d, e));
            feeds++;
        }
        if (chance(50)) {
            int n = chance(90) ? text.length() : pick(440) - 20;
            due("end " + n, x.end(n), model.end(n));
        }
        int shapes = model.shapes();
        due("shapes of " + text, x.shapes(), shapes);
        int fault = model.fault();
        due("fault of " + text, x.fault(), fault);
        faultsMet[fault]++;
        if (fault == 0) {
            told++;
            lastText = text;
        }
        return feeds + 3;
    }

    private String makeText() {
        int shapes = 1 + pick(chance(3) ? 8 : 5);
        StringBuilder text = new StringBuilder();
        for (int s = 0; s < shapes; s++) {
            text.append((char) ('A' + (chance(1) ? pick(26) : s))).append(blank()).append('=').append(blank());
            if (chance(92)) {
                any(text, chance(10) ? 6 : 1 + pick(3), s, shapes, 0);
            }
            text.append(blank()).append(chance(25) ? "closed" : "").append(blank()).append(';').append(blank());
        }
        return text.toString();
    }

    private String blank() {
        return chance(8) ? " ".repeat(1 + pick(3)) : "";
    }

    /** Tells so many PARTS, parted at random. */
    private void any(StringBuilder text, int parts, int shape, int shapes, int depth) {
        int left = parts;
        while (left > 0) {
            int now = left == 1 || chance(60) ? 1 : 2 + pick(left - 1);
            if (left < parts) {
                text.append(chance(55) ? ',' : '|').append(blank());
            }
            if (now > 1 || chance(depth < 5 ? 12 : 1)) {
                text.append('(').append(blank());
                any(text, now, shape, shapes, depth + 1);
                text.append(')').append(blank());
            } else {
                edge(text, shape, shapes);
            }
            if (chance(35)) {
                int least = pick(chance(90) ? 2 : 6);
                int greatest = chance(2) ? pick(7) : Math.min(5, least + pick(4));
                text.append('[').append(least).append(blank()).append(' ').append(greatest).append(']');
            }
            left -= now;
        }
    }

    private void edge(StringBuilder text, int shape, int shapes) {
        text.append(chance(1) ? pick(12) : pick(names)).append(blank());
        int other = pick(shapes);
        switch (pick(8)) {
            case 0: case 1:
                text.append('.').append(blank());
                break;
            case 2: case 3: case 4:
                text.append('@').append(blank()).append((char) ('A' + (chance(1) ? 25 : other)));
                break;
            case 5: case 6:
                int below = chance(95) && shape + 1 < shapes ? shape + 1 + pick(shapes - shape - 1) : other;
                text.append('!').append((char) ('A' + below)).append(blank());
                break;
            default:
                int first = pick(6) - 2;
                int last = chance(3) ? first - 1 : first + pick(5);
                text.append(first < 0 ? "" : " ").append(first).append(blank()).append("...").append(blank());
                text.append(last);
                break;
        }
    }

    private String spoil(String text) {
        int at = pick(text.length());
        String signs = "=;,|()[]@!.-0129 ABCFx";
        String put = chance(10) ? "closed" : chance(10) ? "..." : String.valueOf(signs.charAt(pick(signs.length())));
        switch (pick(4)) {
            case 0: return text.substring(0, at) + text.substring(at + 1);
            case 1: return text.substring(0, at) + put + text.substring(at + 1);
            case 2: return text.substring(0, at);
            default: return text.substring(0, at) + put + text.substring(at);
        }
    }
}
