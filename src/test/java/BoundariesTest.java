import java.util.List;
import java.util.function.Supplier;
import java.util.function.ToIntFunction;

/** Each sentence on NODES, EDGES, THE TAPE and the answers that names a boundary case. */
public final class BoundariesTest {
    private static final int MIN = Integer.MIN_VALUE;
    private static final int MAX = Integer.MAX_VALUE;
    private static final String SIX =
        "A=0.[0 5],1@B[0 5],2.[0 1];B=0@B|1!F|2.[0 0];C=(0.,1.)[0 2]closed;D=3 -9...9[0 5],0@A;E=0!C[0 5];F=9.[0 5];";

    private final Check check = new Check();

    public static void main(String[] args) {
        BoundariesTest test = new BoundariesTest();
        test.firstAnswerThatFits();
        test.refusedChangesNothing();
        test.refusedShapes();
        test.changesAreSeenAtOnce();
        test.sureIsSeenAtOnce();
        test.textsAfterTexts();
        test.nodes();
        test.values();
        test.edgesFromOne();
        test.edgesInAll();
        test.edgesOnceAndInOrder();
        test.cuts();
        test.feeds();
        test.ends();
        test.lastOfAll();
        test.lastNodeWithMostEdges();
        test.dependsAndParts();
        test.resets();
        test.lastCalls();
        test.check.finish("BoundariesTest");
    }

    private void sentence(String words) {
        check.sentence(words);
    }

    private void due(String call, int got, int want) {
        check.due(call, got, want);
    }

    private ShapeJudge judge(String text, int nodes) {
        return check.judge(text, nodes);
    }

    /** Ten NODES, forty EDGES, six SHAPES, 400 bytes. */
    private ShapeJudge full() {
        ShapeJudge x = judge(SIX, 10);
        for (int i = 0; i < 40; i++) {
            x.edge(i / 5 + i % 5 / 4 * 2, i % 5 % 4, i / 3 % 10);
        }
        Check.put(x, "A=0@B;B=1@A closed;" + " ".repeat(381));
        return x;
    }

    private ShapeJudge half() {
        ShapeJudge x = judge("A=0.,1.[0 1];B=0@B[0 5]closed;", 3);
        x.edge(0, 0, 1);
        x.edge(0, 1, 1);
        x.edge(0, 2, 1);
        x.edge(1, 0, 0);
        Check.put(x, "D=0.;E=1!D;");
        return x;
    }

    // ---- Terms: the answers ----

    private void firstAnswerThatFits() {
        sentence("Answers: BAD, STATE, FULL, NONE, the first that fits");
        ShapeJudge x = full();
        due("forty are there", x.count(1), 40);
        due("edge: BAD name, FULL", x.edge(0, 10, 0), -1);
        due("edge: BAD from, FULL", x.edge(10, 0, 0), -1);
        due("edge: BAD to, FULL", x.edge(0, 0, 10), -1);
        due("edge: STATE, FULL", x.edge(0, x.from(0, 0, 0), x.from(0, 0, 1)), -2);
        due("edge: FULL", x.edge(9, 9, 9), -3);
        due("cut: BAD name, not there", x.cut(0, 10, 0), -1);
        due("cut: BAD to, not there", x.cut(0, 0, 10), -1);
        ShapeJudge y = judge("A=0.;", 2);
        y.edge(0, 1, 1);
        due("dealt: BAD, does not FIT", y.dealt(0, 0, 1), -1);
        due("dealt: STATE, not WANTED", y.dealt(0, 0, 0), -2);
        y.edge(0, 0, 1);
        due("dealt: NONE", y.dealt(0, 0, 1), -4);
        due("dealt: BAD, FITS", y.dealt(0, 0, 2), -1);
        due("part: BAD part and what", y.part(0, 1, 4), -1);
    }

    private void refused(String call, Supplier<ShapeJudge> maker, ToIntFunction<ShapeJudge> caller, int want) {
        due(call, caller.applyAsInt(maker.get()), want);
        Supplier<ShapeJudge> after = () -> {
            ShapeJudge x = maker.get();
            caller.applyAsInt(x);
            return x;
        };
        check.holds(call, Check.state(maker).equals(Check.state(after)));
        ShapeJudge plain = maker.get();
        ShapeJudge called = after.get();
        due("the text on THE TAPE after " + call, called.shapes(), plain.shapes());
        due("its PART after " + call, called.part(0, 0, 1), plain.part(0, 0, 1));
    }

    private void refusedChangesNothing() {
        sentence("what is refused changes nothing");
        refused("node", this::full, x -> x.node(true, 5), -3);
        refused("node without", this::full, x -> x.node(false, 5), -3);
        refused("value of 10", this::full, x -> x.value(10, true, 5), -1);
        refused("value of -1", this::full, x -> x.value(-1, false, 5), -1);
        refused("value of 3", this::half, x -> x.value(3, true, 5), -1);
        refused("edge from 3", this::half, x -> x.edge(3, 0, 0), -1);
        refused("edge to 3", this::half, x -> x.edge(0, 0, 3), -1);
        refused("edge by 10", this::half, x -> x.edge(0, 10, 0), -1);
        refused("edge by -1", this::half, x -> x.edge(0, -1, 0), -1);
        refused("edge that is there", this::half, x -> x.edge(0, 1, 1), -2);
        refused("a forty-first edge", this::full, x -> x.edge(9, 9, 9), -3);
        refused("cut from 3", this::half, x -> x.cut(3, 0, 0), -1);
        refused("cut to -1", this::half, x -> x.cut(0, 0, -1), -1);
        refused("cut by 10", this::half, x -> x.cut(0, 10, 1), -1);
        refused("cut what is not there", this::half, x -> x.cut(0, 0, 2), -2);
        refused("feed", this::full, x -> x.feed(0x583d3b20, 0, 0, 0, 0), -3);
        refused("end -1", this::half, x -> x.end(-1), -1);
        refused("end 12 of 11", this::half, x -> x.end(12), -1);
        refused("end 401", this::full, x -> x.end(401), -1);
        refused("tooMany", this::half, x -> x.tooMany(2, 0), -4);
        refused("dealt", this::half, x -> x.dealt(0, 1, 0), -2);
        refused("count", this::half, x -> x.count(6), -1);
        sentence("what asks changes nothing");
        refused("tooMany one", this::half, x -> x.tooMany(0, 0), 0);
        refused("which of two", this::half, x -> x.which(0, 1), 6);
        refused("dealt one", this::half, x -> x.dealt(0, 0, 1), 1);
    }

    private void refusedShapes() {
        sentence("shapes: THE TAPE is empty then, by a FAULT, too; those that there were stay");
        String[] texts = {"", "A", "A=;A=;", "A=0@Z;", "A=0!A;", "A=0.,1.,2.,3.,4.,5.,6.;", "Q=5.closed;R=(6.,10.);"};
        for (String text : texts) {
            Supplier<ShapeJudge> before = () -> {
                ShapeJudge x = full();
                x.end(0);
                return x;
            };
            Supplier<ShapeJudge> after = () -> {
                ShapeJudge x = before.get();
                due("no shapes by " + text, Check.tell(x, text) <= -10 ? 1 : 0, 1);
                return x;
            };
            List<Integer> want = Check.state(before);
            List<Integer> got = Check.state(after);
            check.holds("fault by " + text, got.get(0) > 0);
            check.holds(text, want.subList(1, want.size()).equals(got.subList(1, got.size())));
        }
        sentence("shapes tells all SHAPES");
        ShapeJudge x = full();
        due("two instead of six", x.shapes(), 2);
        due("two", x.count(2), 2);
        due("THE TAPE is empty", x.count(3), 0);
        due("no SHAPE 2", x.told(2, 0), -1);
        due("NODES stay", x.count(0), 10);
        due("EDGES stay", x.count(1), 40);
    }

    /** What was asked before a change must not be answered again after it. */
    private void changesAreSeenAtOnce() {
        sentence("each change is seen by the next question");
        ShapeJudge x = judge("A=0@A[0 1],1 5...5[0 1];", 1);
        due("all of one", x.all(0), 1);
        due("sure of one", x.count(5), 1);
        x.node(true, 5);
        due("node: all", x.all(0), 3);
        due("node: sure", x.count(5), 2);
        x.edge(0, 1, 1);
        due("edge to a 5: all", x.all(0), 3);
        x.value(1, true, 6);
        due("value 6: all", x.all(0), 2);
        due("value 6: sure", x.surely(0, 0), 0);
        x.value(1, true, 5);
        due("value 5: sure", x.surely(0, 0), 1);
        due("value 5: pairs", x.count(4), 2);
        x.edge(0, 0, 0);
        due("edge: sure", x.surely(0, 0), 0);
        x.cut(0, 0, 0);
        due("cut: sure", x.surely(0, 0), 1);
        x.edge(0, 1, 0);
        due("edge to no 5: all", x.all(0), 2);
        x.cut(0, 1, 0);
        due("cut: all", x.all(0), 3);
        Check.tell(x, "A=1.[0 0];");
        due("shapes: all", x.all(0), 2);
        due("shapes: sure", x.count(5), 1);
        x.reset();
        due("reset: all", x.all(0), 0);
        due("reset: sure", x.count(5), 0);
    }

    private void sureIsSeenAtOnce() {
        sentence("SURELY: of ! as the greatest reading tells, after a change, too");
        ShapeJudge x = judge("A=0.;B=1!A;", 2);
        x.edge(0, 1, 1);
        due("1 is no A: surely", x.surely(0, 1), 1);
        x.edge(1, 0, 0);
        due("1 is A: surely", x.surely(0, 1), 0);
        x.cut(1, 0, 0);
        due("1 is no A: pairs", x.count(5), 1);
        x.edge(1, 0, 0);
        due("1 is A: pairs", x.count(5), 1);
        due("it is that one", x.surely(1, 0), 1);
    }

    /** A third text is read where the first one was. */
    private void textsAfterTexts() {
        sentence("shapes tells all SHAPES: nothing is left of texts ahead");
        ShapeJudge x = judge("A=0.,0.,0.closed;B=1.closed;C=2!A closed;", 1);
        Check.tell(x, "A=0.,0.,0.closed;B=1.closed;C=2!A closed;");
        Check.tell(x, "A=;B=;C=;");
        for (int s = 0; s < 3; s++) {
            due("closed " + s, x.told(s, 2), 0);
            due("PARTS of " + s, x.told(s, 1), 0);
            due("no PART of " + s, x.part(s, 0, 0), -1);
            due("without EDGES " + s, x.fits(0, s), 1);
            due("depends " + s, x.depends(2, s), 0);
        }
        x.edge(0, 0, 0);
        x.edge(0, 1, 0);
        for (int s = 0; s < 3; s++) {
            due("with EDGES " + s, x.fits(0, s), 1);
            due("WANTED " + s, x.wanted(0, s), 0);
        }
        Check.tell(x, "A=9@A,9!B,9 3...4,9.;B=8.;");
        Check.tell(x, "A=9@A,9!B,9 3...4,9.;B=8.;");
        Check.tell(x, "A=7.,7.,7.,7 5...6;B=7!A;");
        for (int p = 0; p < 4; p++) {
            int[] want = {7, p < 3 ? 0 : 3, p < 3 ? 0 : 5, p < 3 ? 0 : 6};
            for (int what = 0; what < 4; what++) {
                due("PART " + p + " " + what, x.part(0, p, what), want[what]);
            }
        }
        due("the SHAPE of !", x.part(1, 0, 2), 0);
        due("no other PART", x.part(1, 1, 0), -1);
    }

    // ---- NODES and EDGES ----

    private void nodes() {
        sentence("NODES (10) are numbered as they come; FULL");
        ShapeJudge x = judge("A=;", 0);
        due("no NODE 0 yet", x.fits(0, 0), -1);
        for (int n = 0; n < 10; n++) {
            due("none yet", x.value(n, true, 0), -1);
            due("node", x.node(n % 2 == 0, n), n);
            due("now it is there", x.fits(n, 0), 1);
            due("and the only new one", x.all(0), (2 << n) - 1);
        }
        due("the eleventh", x.node(true, 10), -3);
        due("ten", x.count(0), 10);
        due("no NODE 10", x.fits(10, 0), -1);
    }

    private void values() {
        sentence("n ... m: one with a VALUE of n to m");
        ShapeJudge x = judge("A=0 -9999...9999;B=0 5...5;C=0 0...0;D=0-3...-2;", 2);
        int[] values = {MIN, MIN + 1, -65531, -10000, -9999, -4, -3, -2, -1, 0, 1, 4, 5, 6, 9999, 10000, 65536, 65541,
            1 << 30, MAX - 4, MAX};
        x.edge(0, 0, 1);
        for (int value : values) {
            due("value", x.value(1, true, value), 1);
            due("-9999...9999 takes " + value, x.fits(0, 0), value >= -9999 && value <= 9999 ? 1 : 0);
            due("5...5 takes " + value, x.fits(0, 1), value == 5 ? 1 : 0);
            due("0...0 takes " + value, x.fits(0, 2), value == 0 ? 1 : 0);
            due("-3...-2 takes " + value, x.fits(0, 3), value == -3 || value == -2 ? 1 : 0);
            due("no value", x.value(1, false, value), 1);
            due("all of C", x.all(2), 0);
            due("all of A", x.all(0), 0);
        }
        sentence("each with a VALUE (an int) or without");
        for (int value : values) {
            ShapeJudge y = judge("A=0 -9999...9999;", 0);
            y.node(false, value);
            y.node(true, value);
            y.edge(0, 0, 0);
            y.edge(1, 0, 1);
            due("nodes of " + value, y.all(0), value >= -9999 && value <= 9999 ? 2 : 0);
        }
    }

    private void edgesFromOne() {
        sentence("EDGES (40 at most, 5 from one NODE)");
        ShapeJudge x = judge("A=;", 10);
        for (int i = 0; i < 5; i++) {
            due("edge " + i, x.edge(3, 2, i), i + 1);
            due("the last is there", x.from(3, i, 1), i);
            due("none behind it", x.from(3, i + 1, 1), -1);
        }
        due("the sixth", x.edge(3, 2, 5), -3);
        due("the sixth by another NAME", x.edge(3, 1, 0), -3);
        due("from another", x.edge(4, 2, 3), 6);
        due("to the same", x.edge(5, 2, 3), 7);
        x.cut(3, 2, 0);
        due("the fifth again", x.edge(3, 1, 0), 7);
        due("the sixth again", x.edge(3, 2, 0), -3);
    }

    private void edgesInAll() {
        sentence("EDGES (40 at most, 5 from one NODE)");
        ShapeJudge x = judge("A=;", 10);
        for (int i = 0; i < 40; i++) {
            due("edge " + i, x.edge(i % 10, 9, i / 10), i + 1);
        }
        for (int n = 0; n < 10; n++) {
            due("a forty-first from " + n, x.edge(n, 9, 9), -3);
        }
        due("forty", x.count(1), 40);
        due("one goes", x.cut(7, 9, 0), 39);
        due("the fortieth", x.edge(2, 0, 0), 40);
        due("the forty-first", x.edge(7, 9, 0), -3);
    }

    private void edgesOnceAndInOrder() {
        sentence("from a NODE by a NAME (0 to 9) to a NODE, each of these once");
        ShapeJudge x = judge("A=;", 10);
        due("from 0 by 0 to 0", x.edge(0, 0, 0), 1);
        due("from 9 by 9 to 9", x.edge(9, 9, 9), 2);
        due("the same", x.edge(0, 0, 0), -2);
        due("another NAME", x.edge(0, 1, 0), 3);
        due("another end", x.edge(0, 0, 1), 4);
        due("the way back", x.edge(1, 0, 0), 5);
        due("that again", x.edge(1, 0, 0), -2);
        for (int bad : new int[] {-1, 10, MIN, MAX, 16, -10}) {
            due("from " + bad, x.edge(bad, 0, 0), -1);
            due("by " + bad, x.edge(0, bad, 0), -1);
            due("to " + bad, x.edge(0, 0, bad), -1);
        }
        sentence("a NODE's EDGES are in order: by NAME, then by the NODE to which");
        int[][] want = {{0, 0}, {0, 9}, {1, 5}, {9, 0}, {9, 1}};
        int[][] orders = {{0, 1, 2, 3, 4}, {4, 3, 2, 1, 0}, {2, 0, 4, 1, 3}, {1, 4, 0, 3, 2}, {3, 2, 4, 0, 1}};
        for (int[] order : orders) {
            ShapeJudge y = judge("A=;", 10);
            for (int i : order) {
                y.edge(9, want[i][0], want[i][1]);
            }
            for (int i = 0; i < 5; i++) {
                due("NAME " + i, y.from(9, i, 0), want[i][0]);
                due("NODE " + i, y.from(9, i, 1), want[i][1]);
            }
            due("no EDGE -1", y.from(9, -1, 0), -1);
            due("no EDGE 5", y.from(9, 5, 0), -1);
            due("no what -1", y.from(9, 0, -1), -1);
            due("no what 2", y.from(9, 0, 2), -1);
            due("none of 8", y.from(8, 0, 0), -1);
        }
    }

    private void cuts() {
        sentence("cut: BAD; STATE: it is not there");
        ShapeJudge x = judge("A=;", 10);
        due("of none", x.cut(0, 0, 0), -2);
        for (int i = 0; i < 5; i++) {
            x.edge(9, 9, i);
        }
        x.edge(8, 9, 9);
        for (int bad : new int[] {-1, 10, MIN, MAX}) {
            due("from " + bad, x.cut(bad, 9, 0), -1);
            due("by " + bad, x.cut(9, bad, 0), -1);
            due("to " + bad, x.cut(9, 9, bad), -1);
        }
        due("the way back", x.cut(9, 9, 8), -2);
        due("another NAME", x.cut(9, 0, 0), -2);
        int left = 6;
        for (int i : new int[] {2, 4, 0, 3, 1}) {
            left--;
            due("cut " + i, x.cut(9, 9, i), left);
            due("it again", x.cut(9, 9, i), -2);
            check.holds("so many are left", left == 1 || x.from(9, left - 2, 1) >= 0);
            due("and no more", x.from(9, left - 1, 1), -1);
        }
        due("the other's stays", x.from(8, 0, 1), 9);
        due("the last", x.cut(8, 9, 9), 0);
    }

    // ---- THE TAPE ----

    private void feeds() {
        sentence("Twenty bytes come behind THE TAPE, of each number the highest first");
        ShapeJudge x = new ShapeJudge();
        due("feed", x.feed(0x41424344, 0x45464748, 0x494a4b4c, 0x4d4e4f50, 0x51525354), 20);
        due("B can not stand there", x.shapes(), -11);
        for (int place = 0; place < 20; place++) {
            int[] numbers = new int[5];
            for (int i = 0; i < 5; i++) {
                numbers[i] = 0x20202020;
            }
            int shift = 24 - place % 4 * 8;
            for (int b : new int[] {0, 1, 127, 128, 255}) {
                numbers[place / 4] = 0x20202020 & ~(255 << shift) | b << shift;
                x.feed(numbers[0], numbers[1], numbers[2], numbers[3], numbers[4]);
                due("the byte " + b + " at " + place, x.shapes(), -10 - place);
                due("it is no TOKEN", x.fault(), 1);
            }
        }
        sentence("feed: FULL: more than 400");
        for (int had = 378; had <= 400; had++) {
            ShapeJudge y = new ShapeJudge();
            Check.put(y, " ".repeat(400));
            y.end(had);
            due("behind " + had, y.feed(0x20202041, MIN, MAX, -1, 0), had <= 380 ? had + 20 : -3);
            due("so many then", y.count(3), had <= 380 ? had + 20 : had);
        }
    }

    private void ends() {
        sentence("end: THE TAPE keeps its first n bytes: how many it had. BAD");
        ShapeJudge x = new ShapeJudge();
        due("0 of 0", x.end(0), 0);
        due("1 of 0", x.end(1), -1);
        due("-1 of 0", x.end(-1), -1);
        Check.put(x, " ".repeat(400));
        due("401 of 400", x.end(401), -1);
        due("the lowest", x.end(MIN), -1);
        due("the highest", x.end(MAX), -1);
        due("400 of 400", x.end(400), 400);
        due("399 of 400", x.end(399), 400);
        due("400 of 399", x.end(400), -1);
        due("0 of 399", x.end(0), 399);
        due("0 again", x.end(0), 0);
    }

    /** The last NODE and the last SHAPE are there, the next ones are not. */
    private void lastOfAll() {
        sentence("BAD: there is no such NODE, SHAPE");
        ShapeJudge x = judge("A=;B=;C=;D=;E=;F=5.[0 1];", 10);
        for (int bad : new int[] {-1, MIN, MAX, 64, -64, 32, -32}) {
            checkPair(x, bad, 5);
            checkPair(x, 9, bad);
            due("all of " + bad, x.all(bad), -1);
            due("depends " + bad, x.depends(bad, 0), -1);
            due("depends on " + bad, x.depends(0, bad), -1);
            due("part of " + bad, x.part(bad, 0, 0), -1);
            due("part " + bad, x.part(5, bad, 0), -1);
            due("part what " + bad, x.part(5, 0, bad), -1);
            due("told of " + bad, x.told(bad, 0), -1);
            due("told what " + bad, x.told(5, bad), -1);
            due("count " + bad, x.count(bad), -1);
            due("value of " + bad, x.value(bad, true, 0), -1);
        }
        checkPair(x, 10, 5);
        checkPair(x, 9, 6);
        due("all of 6", x.all(6), -1);
        due("depends 6", x.depends(6, 5), -1);
        due("depends on 6", x.depends(5, 6), -1);
        due("part of 6", x.part(6, 0, 0), -1);
        due("part 1 of 5", x.part(5, 1, 0), -1);
        due("part what 4", x.part(5, 0, 4), -1);
        due("told of 6", x.told(6, 0), -1);
        due("told what 3", x.told(5, 3), -1);
        due("count 6", x.count(6), -1);
        due("fits", x.fits(9, 5), 1);
        due("surely", x.surely(9, 5), 1);
        due("all", x.all(5), 1023);
        due("wanted", x.wanted(9, 5), 0);
        due("tooMany", x.tooMany(9, 5), 0);
        due("which", x.which(9, 5), 0);
        due("depends", x.depends(5, 5), 0);
        due("part", x.part(5, 0, 0), 5);
        due("told", x.told(5, 0), 'F');
        due("pairs", x.count(4), 60);
        due("sure pairs", x.count(5), 60);
    }

    private void lastNodeWithMostEdges() {
        sentence("NODES (10), EDGES (5 from one NODE), SHAPES (6): the last of all");
        ShapeJudge x = judge("A=;B=;C=;D=;E=;F=9 5...9[5 5]|9@F,9@F,9.;", 10);
        for (int to = 5; to < 10; to++) {
            x.edge(9, 9, to);
        }
        due("fits", x.fits(9, 5), 1);
        due("surely", x.surely(9, 5), 1);
        due("all", x.all(5), 512);
        due("wanted", x.wanted(9, 5), 5);
        due("not wanted", x.wanted(9, 4), 0);
        due("dealt", x.dealt(9, 5, 4), 0);
        due("dealt first", x.dealt(9, 5, 0), 0);
        due("no sixth", x.dealt(9, 5, 5), -1);
        due("not wanted, dealt", x.dealt(9, 4, 4), -4);
        due("tooMany", x.tooMany(9, 5), 0);
        x.value(9, false, 9);
        due("no way", x.tooMany(9, 5), -4);
        x.cut(9, 9, 9);
        x.edge(9, 8, 9);
        due("a way less", x.which(9, 5), -4);
        Check.tell(x, "A=;B=;C=;D=;E=;F=9.[4 4]closed;");
        due("the first by NAME", x.which(9, 5), 1);
        due("one", x.tooMany(9, 5), 1);
        due("pairs", x.count(4), 50);
    }

    private void checkPair(ShapeJudge x, int n, int s) {
        due("fits " + n + " " + s, x.fits(n, s), -1);
        due("surely " + n + " " + s, x.surely(n, s), -1);
        due("wanted " + n + " " + s, x.wanted(n, s), -1);
        due("dealt " + n + " " + s, x.dealt(n, s, 0), -1);
        due("tooMany " + n + " " + s, x.tooMany(n, s), -1);
        due("which " + n + " " + s, x.which(n, s), -1);
    }

    // ---- promises 17 to 22 ----

    private void dependsAndParts() {
        sentence("A SHAPE DEPENDS on those behind @, ! in it, and on those on which these do");
        ShapeJudge x = judge("A=0@B;B=0!C;C=0@D;D=0!E;E=0@F;F=0 1...2;", 0);
        for (int s = 0; s < 6; s++) {
            for (int other = 0; other < 6; other++) {
                due(s + " on " + other, x.depends(s, other), s < other ? 1 : 0);
            }
        }
        ShapeJudge y = judge("F=0@A;E=0@F;D=0@E;C=0@D;B=0@C;A=0@B;", 0);
        for (int pair = 0; pair < 36; pair++) {
            due("in a circle " + pair, y.depends(pair / 6, pair % 6), 1);
        }
        sentence("a number told may be -1, too");
        ShapeJudge z = judge("A=0-1...-1,0 1...2,0@A,0.,0!B;B=;", 0);
        due("the first", z.part(0, 0, 2), -1);
        due("the second", z.part(0, 0, 3), -1);
        sentence("2 the SHAPE, the first NUMBER (else 0), 3 the second NUMBER (else 0)");
        due("second of ...", z.part(0, 1, 3), 2);
        due("second of @", z.part(0, 2, 3), 0);
        due("first of .", z.part(0, 3, 2), 0);
        due("second of .", z.part(0, 3, 3), 0);
        due("SHAPE of !", z.part(0, 4, 2), 1);
        due("second of !", z.part(0, 4, 3), 0);
    }

    private void resets() {
        sentence("All is as at first, but THE TAPE, SHAPES: how many NODES went");
        ShapeJudge x = full();
        due("ten", x.reset(), 10);
        due("none", x.reset(), 0);
        due("no EDGES", x.count(1), 0);
        due("400 bytes", x.count(3), 400);
        due("six SHAPES", x.count(2), 6);
        for (int n = 0; n < 10; n++) {
            due("no NODE " + n, x.fits(n, 0), -1);
        }
        for (int n = 0; n < 10; n++) {
            due("node", x.node(false, 1), n);
            due("without EDGES", x.from(n, 0, 0), -1);
        }
        for (int i = 0; i < 40; i++) {
            due("edge", x.edge(i / 5, 0, i % 5), i + 1);
        }
        due("full again", x.edge(9, 0, 0), -3);
        ShapeJudge z = judge("A=0 0...9;", 10);
        for (int turn = 0; turn < 2; turn++) {
            for (int n = 0; n < 10; n++) {
                z.node(false, n);
                z.edge(n, 0, n);
            }
            due("VALUES", z.all(0), turn == 0 ? 1023 : 0);
            due("ten again", z.reset(), 10);
        }
        Supplier<ShapeJudge> again = () -> {
            ShapeJudge y = half();
            y.reset();
            return y;
        };
        Supplier<ShapeJudge> first = () -> {
            ShapeJudge y = judge("A=0.,1.[0 1];B=0@B[0 5]closed;", 0);
            Check.put(y, "D=0.;E=1!D;");
            return y;
        };
        check.holds("alike", Check.state(first).equals(Check.state(again)));
    }

    private void lastCalls() {
        sentence("An object is used for at most 512 calls after it has been made");
        ShapeJudge x = new ShapeJudge();
        x.node(true, 3);
        x.edge(0, 0, 0);
        int calls = 2;
        for (int turn = 0; turn < 102; turn++) {
            x.feed(0x413d3020, 0x332e2e2e, 0x333b2020, 0x20202020, 0x20202020);
            x.shapes();
            x.cut(0, 0, 0);
            x.edge(0, 0, 0);
            due("in call " + (calls + 5), x.fits(0, 0), 1);
            calls += 5;
        }
        due("calls", calls, 512);
    }
}
