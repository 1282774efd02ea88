/** Each promise of the document: ordinary inputs, the edges that it names, and wrong inputs. */
public final class PromisesTest {
    private static final int[] WRONG = {-1, 10, 6, 1000, Integer.MAX_VALUE, Integer.MIN_VALUE, -2, -10};

    private final Check check = new Check();

    public static void main(String[] args) {
        PromisesTest test = new PromisesTest();
        test.promise1NewObject();
        test.promise2Node();
        test.promise3Value();
        test.promise4Edge();
        test.promise5Cut();
        test.promise6Feed();
        test.promise7End();
        test.promise8Shapes();
        test.promise9Fault();
        test.promise10Fits();
        test.promise10Counts();
        test.promise10Readings();
        test.promise11Surely();
        test.promise12All();
        test.promise13Wanted();
        test.promise14Dealt();
        test.promise15And16TooManyAndWhich();
        test.promise17Depends();
        test.promise18Part();
        test.promise19Told();
        test.promise20From();
        test.promise21Reset();
        test.promise22Count();
        test.check.finish("PromisesTest");
    }

    private void due(String call, int got, int want) {
        check.due(call, got, want);
    }

    private ShapeJudge judge(String text) {
        return check.judge(text, 0);
    }

    private static void nodes(ShapeJudge x, int many) {
        for (int i = 0; i < many; i++) {
            x.node(false, 0);
        }
    }

    private void promise1NewObject() {
        ShapeJudge x = new ShapeJudge();
        for (int what = 0; what <= 5; what++) {
            due("new: count " + what, x.count(what), 0);
        }
        due("new: fault", x.fault(), 0);
        due("new: fits", x.fits(0, 0), -1);
        due("new: all", x.all(0), -1);
        due("new: told", x.told(0, 0), -1);
        due("new: part", x.part(0, 0, 0), -1);
        due("new: depends", x.depends(0, 0), -1);
        due("new: from", x.from(0, 0, 0), -1);
        due("new: end", x.end(0), 0);
        due("new: reset", x.reset(), 0);
        ShapeJudge other = new ShapeJudge();
        x.node(true, 1);
        due("objects do not share", other.count(0), 0);
    }

    private void promise2Node() {
        ShapeJudge x = new ShapeJudge();
        for (int i = 0; i < 10; i++) {
            due("node " + i, x.node(i % 2 == 0, Integer.MIN_VALUE), i);
        }
        due("an eleventh node", x.node(true, 0), -3);
        due("an eleventh node without", x.node(false, 0), -3);
        due("count 0", x.count(0), 10);
        ShapeJudge y = judge("A=0 -9999...9999;");
        y.node(true, 9999);
        y.node(true, 10000);
        y.node(false, 5);
        y.node(true, -9999);
        y.node(true, -10000);
        y.node(true, Integer.MIN_VALUE);
        int[] taken = {1, 0, 0, 1, 0, 0};
        for (int to = 0; to < 6; to++) {
            y.edge(0, 0, to);
            due("a value of node " + to, y.fits(0, 0), taken[to]);
            y.cut(0, 0, to);
        }
    }

    private void promise3Value() {
        ShapeJudge x = judge("A=0 3...5;");
        x.node(true, 4);
        x.edge(0, 0, 0);
        due("fits by 4", x.fits(0, 0), 1);
        due("value 6", x.value(0, true, 6), 1);
        due("fits by 6", x.fits(0, 0), 0);
        due("value 3", x.value(0, true, 3), 1);
        due("fits by 3", x.fits(0, 0), 1);
        due("value none, told 3", x.value(0, false, 3), 1);
        due("fits by none", x.fits(0, 0), 0);
        due("value 5", x.value(0, true, 5), 1);
        due("fits by 5", x.fits(0, 0), 1);
        due("value of no node", x.value(1, true, 0), -1);
        for (int n : WRONG) {
            due("value of node " + n, x.value(n, false, 0), -1);
        }
        due("nothing changed", x.fits(0, 0), 1);
    }

    private void promise4Edge() {
        ShapeJudge x = new ShapeJudge();
        nodes(x, 10);
        due("edge", x.edge(0, 9, 0), 1);
        due("edge there", x.edge(0, 9, 0), -2);
        for (int n : WRONG) {
            due("edge from " + n, n == 6 ? -1 : x.edge(n, 0, 0), -1);
            due("edge to " + n, n == 6 ? -1 : x.edge(0, 0, n), -1);
            due("edge by " + n, n == 6 ? -1 : x.edge(0, n, 0), -1);
        }
        for (int i = 1; i < 5; i++) {
            due("edge " + i, x.edge(0, 9 - i, 0), i + 1);
        }
        due("a sixth from one", x.edge(0, 0, 0), -3);
        due("there ahead of full", x.edge(0, 9, 0), -2);
        due("bad ahead of full", x.edge(0, 10, 0), -1);
        due("others still", x.edge(1, 0, 0), 6);
        for (int i = 6; i < 40; i++) {
            int n = i / 5;
            due("edge " + i, x.edge(n, 5, i % 5 == 0 && n == 1 ? 9 : i % 5), i + 1);
        }
        due("a forty-first", x.edge(9, 0, 0), -3);
        due("there ahead of forty", x.edge(1, 0, 0), -2);
        due("count 1", x.count(1), 40);
        x.cut(0, 9, 0);
        due("again forty", x.edge(9, 0, 0), 40);
    }

    private void promise5Cut() {
        ShapeJudge x = new ShapeJudge();
        nodes(x, 3);
        x.edge(0, 1, 2);
        x.edge(0, 1, 1);
        x.edge(0, 0, 2);
        x.edge(1, 1, 0);
        due("not there, other name", x.cut(0, 2, 2), -2);
        due("not there, other way", x.cut(2, 1, 0), -2);
        due("bad from", x.cut(3, 1, 2), -1);
        due("bad to", x.cut(0, 1, 3), -1);
        due("bad name", x.cut(0, 10, 2), -1);
        due("bad name below", x.cut(0, -1, 2), -1);
        due("cut in the middle", x.cut(0, 1, 1), 3);
        due("first stays, name", x.from(0, 0, 0), 0);
        due("second, name", x.from(0, 1, 0), 1);
        due("second, to", x.from(0, 1, 1), 2);
        due("no third", x.from(0, 2, 1), -1);
        due("gone already", x.cut(0, 1, 1), -2);
        due("cut last", x.cut(0, 1, 2), 2);
        due("cut first", x.cut(0, 0, 2), 1);
        due("another node's", x.from(1, 0, 1), 0);
        due("cut it", x.cut(1, 1, 0), 0);
        due("again an edge", x.edge(0, 1, 1), 1);
    }

    private void promise6Feed() {
        ShapeJudge x = new ShapeJudge();
        for (int i = 1; i <= 20; i++) {
            due("feed " + i, x.feed(0, 0, 0, 0, 0), 20 * i);
        }
        due("feed beyond 400", x.feed(0, 0, 0, 0, 0), -3);
        due("count 3", x.count(3), 400);
        x.end(381);
        due("feed beyond 400 by one", x.feed(0, 0, 0, 0, 0), -3);
        x.end(380);
        due("feed to 400", x.feed(0, 0, 0, 0, 0), 400);
        x.end(0);
        due("feed at the order", x.feed(0x413d303b, 0x423d313b, 0x433d323b, 0x20202020, 0x443d3b20), 20);
        due("bytes: A=0;", x.shapes(), -13);
        x.feed(0x413d302e, 0x3b423d31, 0x2e3b433d, 0x322e3b44, 0x3d3b453d);
        x.feed(0x3b202020, 0x20202020, 0x20202020, 0x20202020, 0x2020463d);
        x.feed(0x3b202020, 0x20202020, 0x20202020, 0x20202020, 0x20202020);
        due("a text over three feeds", x.shapes(), 6);
        x.feed(0xff202020, 0x20202020, 0x20202020, 0x20202020, 0x20202020);
        due("a byte above 127", x.shapes(), -10);
        due("is no TOKEN", x.fault(), 1);
    }

    private void promise7End() {
        ShapeJudge x = new ShapeJudge();
        due("end 1 of nothing", x.end(1), -1);
        x.feed(0x413d3b20, 0x423d3b20, 0x433d3b20, 0x443d3b20, 0x453d3b20);
        due("end 21", x.end(21), -1);
        due("end -1", x.end(-1), -1);
        due("end of extremes", x.end(Integer.MIN_VALUE), -1);
        due("end of extremes", x.end(Integer.MAX_VALUE), -1);
        due("still 20", x.count(3), 20);
        due("end 20", x.end(20), 20);
        due("end 11", x.end(11), 20);
        due("now 11", x.count(3), 11);
        due("three are told", x.shapes(), 3);
        due("the tape is empty", x.end(0), 0);
    }

    private void promise8Shapes() {
        ShapeJudge x = new ShapeJudge();
        due("the empty tape", x.shapes(), -10);
        due("three", Check.tell(x, " A = 0 . ; B=0!A [0 1] , 1@B closed;C=;"), 3);
        due("the tape is empty", x.count(3), 0);
        due("a FAULT", Check.tell(x, "D=0.;E=x"), -17);
        due("the tape is empty by a FAULT too", x.count(3), 0);
        due("the three stay", x.count(2), 3);
        due("their words stay", x.told(1, 0), 'B');
        due("their parts stay", x.part(1, 1, 1), 1);
        x.node(false, 0);
        x.edge(0, 1, 0);
        due("they still judge", x.fits(0, 1), 1);
        due("one", Check.tell(x, "Z=1.[0 0];"), 1);
        due("the others went", x.told(1, 0), -1);
        due("the new one judges", x.fits(0, 0), 0);
        due("words again", Check.tell(x, "B=;A=closed;"), 2);
        due("none is left of before", x.told(0, 1), 0);
        due("fits the empty", x.fits(0, 0), 1);
        due("closed now", x.fits(0, 1), 0);
        due("blanks alone", Check.tell(x, "    "), -14);
        due("six", Check.tell(x, "A=;B=;C=;D=;E=;F=;"), 6);
        due("a text of 400 bytes", Check.tell(x, "A=" + " ".repeat(397) + ";"), 1);
        due("depth six", Check.tell(x, "A=((((((0.[0 1])[0 1])[0 1])[0 1])[0 1])[0 1])[0 1];"), 1);
        promise8TextsAfterTexts();
        due("six parts", Check.tell(x, "A=0.|1.|(2.,(3.[0 5]|4.),5.[5 5])closed;"), 1);
    }

    /** Nothing of a text comes into a later one, be it with a FAULT or without. */
    private void promise8TextsAfterTexts() {
        ShapeJudge x = new ShapeJudge();
        nodes(x, 1);
        x.edge(0, 0, 0);
        x.edge(0, 2, 0);
        for (String cut : new String[] {"A=(0.,x", "A=(0.|x", "A=0.,(1.,x", "A=((((((0.x", "A=0.|(1.|(2.,x"}) {
            Check.tell(x, cut);
            due("after " + cut, Check.tell(x, "A=0.,(1.|2.);B=((0.,2.));C=(0.|2.);"), 3);
            due("a bracket after " + cut, x.fits(0, 0), 1);
            due("brackets after " + cut, x.fits(0, 1), 1);
            due("one alone after " + cut, x.fits(0, 2), 0);
        }
        x.cut(0, 2, 0);
        String down = "A=0!B;B=0!C;C=0!D;D=0!E;E=0!F;F=;";
        String up = "A=;B=0!A;C=0!B;D=0!C;E=0!D;F=0!E;";
        for (int turn = 0; turn < 8; turn++) {
            boolean isDown = turn / 2 % 2 == 0;
            due("a chain of !", Check.tell(x, isDown ? down : up), 6);
            for (int s = 0; s < 6; s++) {
                int steps = isDown ? 5 - s : s;
                due("turn " + turn + ", shape " + s, x.fits(0, s), steps % 2 == 0 ? 1 : 0);
            }
        }
    }

    private void promise9Fault() {
        ShapeJudge x = new ShapeJudge();
        due("none yet", x.fault(), 0);
        Check.tell(x, "A=0@B;");
        due("6", x.fault(), 6);
        due("6 asked again", x.fault(), 6);
        x.feed(0, 0, 0, 0, 0);
        due("still of the latest", x.fault(), 6);
        x.end(0);
        Check.tell(x, "A=;");
        due("0 again", x.fault(), 0);
    }

    private void promise10Fits() {
        ShapeJudge x = judge("A=0 1...2,0.,1@B closed;B=;C=2!B;D=2!C;E=3.|4.,4.;");
        x.node(false, 0);
        x.node(true, 1);
        x.node(true, 2);
        due("without edges", x.fits(0, 0), 0);
        x.edge(0, 0, 1);
        x.edge(0, 0, 2);
        due("a part too few", x.fits(0, 0), 0);
        x.edge(0, 1, 2);
        due("all three", x.fits(0, 0), 1);
        x.edge(0, 2, 2);
        due("closed, one other", x.fits(0, 0), 0);
        due("not B behind !", x.fits(0, 2), 0);
        due("not C behind !, which does not fit", x.fits(0, 3), 1);
        x.edge(0, 3, 0);
        due("the one of |", x.fits(0, 4), 1);
        x.cut(0, 0, 1);
        x.edge(0, 4, 0);
        due("neither whole", x.fits(0, 4), 0);
        due("nothing told is fit by all", x.fits(0, 1), 1);
        for (int n : WRONG) {
            due("fits node " + n, x.fits(n, 0), -1);
            due("fits shape " + n, x.fits(0, n), -1);
        }
        due("fits shape 5", x.fits(0, 5), -1);
        due("fits node 3", x.fits(3, 0), -1);
    }

    /** So many EDGES by NAME 0 as there are; which numbers of them FIT, as a sum of 2 to each. */
    private int fittingNumbers(String body) {
        ShapeJudge x = judge("A=" + body + ";");
        nodes(x, 6);
        int sum = x.fits(0, 0);
        for (int many = 1; many <= 5; many++) {
            x.edge(0, 0, many);
            sum += x.fits(0, 0) << many;
        }
        return sum;
    }

    private void promise10Counts() {
        due("one", fittingNumbers("0."), 0b10);
        due("[1 1]", fittingNumbers("0.[1 1]"), 0b10);
        due("[0 0]", fittingNumbers("0.[0 0]"), 0b1);
        due("[0 1]", fittingNumbers("0.[0 1]"), 0b11);
        due("[2 4]", fittingNumbers("0.[2 4]"), 0b11100);
        due("[5 5]", fittingNumbers("0.[5 5]"), 0b100000);
        due("[0 5]", fittingNumbers("0.[0 5]"), 0b111111);
        due("two and two", fittingNumbers("(0.,0.)[0 2]"), 0b10101);
        due("three or none", fittingNumbers("(0.[3 3]|0.[0 0])"), 0b1001);
        due("twos or threes", fittingNumbers("(0.[2 2]|0.[3 3])[1 2]"), 0b111100);
        due("two and two to three", fittingNumbers("0.[2 2],0.[2 3]"), 0b110000);
        due("nothing within", fittingNumbers("(0.[0 1])[5 5]"), 0b111111);
        due(", binds more than |", fittingNumbers("0.|0.,0."), 0b110);
        due("( binds more than ,", fittingNumbers("(0.|0.),0."), 0b100);
        due("| after ,", fittingNumbers("0.,0.|0."), 0b110);
        due("three of |", fittingNumbers("0.|0.,0.,0.|0.[0 0]"), 0b1011);
    }

    private void promise10Readings() {
        ShapeJudge x = judge("A=0@A;B=0@B|0.[0 0];C=0@D;D=0@C;E=0!A;F=1!E[0 5],0@F[0 5];");
        nodes(x, 3);
        x.edge(0, 0, 1);
        x.edge(1, 0, 0);
        due("a circle fits by the greatest reading", x.all(0), 0b011);
        due("an end of a way", x.all(1), 0b111);
        due("a circle of shapes", x.all(2), 0b011);
        due("and the other", x.all(3), 0b011);
        due("behind ! what is read ahead", x.all(4), 0b000);
        x.edge(2, 0, 0);
        due("a way into the circle", x.all(0), 0b111);
        x.cut(1, 0, 0);
        due("the way has an end", x.all(0), 0b000);
        due("which is no fit for !", x.all(4), 0b101);
        x.edge(1, 1, 0);
        due("whom a ! turns away", x.all(5), 0b000);
        x.cut(1, 1, 0);
        x.edge(1, 1, 1);
        due("whom a ! lets go", x.all(5), 0b111);
    }

    private void promise11Surely() {
        ShapeJudge x = judge("A=0@A;B=0@B|0.[0 0];C=0!A;D=0@A[0 1];");
        nodes(x, 4);
        x.edge(0, 0, 0);
        x.edge(1, 0, 2);
        due("in a circle it fits", x.fits(0, 0), 1);
        due("but not surely", x.surely(0, 0), 0);
        due("an end surely", x.surely(2, 1), 1);
        due("a way to the end surely", x.surely(1, 1), 1);
        due("a circle not surely", x.surely(0, 1), 0);
        due("of ! as the greatest reading tells", x.surely(0, 2), 0);
        due("of ! what does not fit", x.surely(1, 2), 1);
        due("without edges surely", x.surely(3, 3), 1);
        due("behind @ what is not sure", x.surely(0, 3), 0);
        x.cut(0, 0, 0);
        x.edge(0, 0, 1);
        due("changed", x.surely(0, 1), 1);
        for (int n : WRONG) {
            due("surely node " + n, x.surely(n, 0), -1);
            due("surely shape " + n, x.surely(0, n), -1);
        }
        due("surely node 4", x.surely(4, 0), -1);
        due("surely shape 4", x.surely(0, 4), -1);
    }

    private void promise12All() {
        ShapeJudge x = judge("A=;B=0.;");
        due("no nodes", x.all(0), 0);
        nodes(x, 10);
        due("all ten", x.all(0), 1023);
        due("none", x.all(1), 0);
        x.edge(9, 0, 0);
        x.edge(2, 0, 0);
        due("two", x.all(1), 516);
        due("all of shape 2", x.all(2), -1);
        for (int s : WRONG) {
            due("all of shape " + s, x.all(s), -1);
        }
    }

    private void promise13Wanted() {
        ShapeJudge x = judge("A=0.,2 1...2[0 0]|(3@A)closed;B=;");
        nodes(x, 2);
        due("none", x.wanted(0, 0), 0);
        x.edge(0, 0, 0);
        x.edge(0, 0, 1);
        x.edge(0, 1, 0);
        x.edge(0, 2, 0);
        x.edge(0, 3, 0);
        due("by name alone", x.wanted(0, 0), 4);
        due("of nothing told", x.wanted(0, 1), 0);
        due("another node", x.wanted(1, 0), 0);
        due("node 2", x.wanted(2, 0), -1);
        due("shape 2", x.wanted(0, 2), -1);
        for (int n : WRONG) {
            due("wanted node " + n, x.wanted(n, 0), -1);
            due("wanted shape " + n, x.wanted(0, n), -1);
        }
    }

    private void promise14Dealt() {
        ShapeJudge x = judge("A=0.[0 5],0 1...9,0 5...5[0 1];B=1.;C=0 5...5|(0.,0.);");
        x.node(true, 5);
        x.node(true, 1);
        x.node(true, 0);
        x.edge(0, 0, 2);
        x.edge(0, 0, 1);
        x.edge(0, 0, 0);
        x.edge(0, 1, 0);
        due("the first to the least part", x.dealt(0, 0, 0), 0);
        due("the next to the part that must have one", x.dealt(0, 0, 1), 1);
        due("what is left", x.dealt(0, 0, 2), 0);
        due("not wanted", x.dealt(0, 0, 3), -4);
        due("wanted alone", x.dealt(0, 1, 3), 0);
        due("not wanted by the other", x.dealt(0, 1, 0), -4);
        due("no such edge", x.dealt(0, 0, 4), -1);
        due("edge -1", x.dealt(0, 0, -1), -1);
        due("does not fit", x.dealt(0, 2, 0), -2);
        due("does not fit, not wanted", x.dealt(0, 2, 3), -2);
        due("does not fit, no such edge", x.dealt(0, 2, 4), -1);
        x.cut(0, 0, 2);
        due("only two parts for two", x.dealt(0, 2, 0), 1);
        due("the other of two", x.dealt(0, 2, 1), 2);
        x.cut(0, 0, 1);
        due("of two ways the least part", x.dealt(0, 2, 0), 0);
        for (int n : WRONG) {
            due("dealt node " + n, x.dealt(n, 0, 0), -1);
            due("dealt shape " + n, x.dealt(0, n, 0), -1);
            due("dealt edge " + n, x.dealt(0, 0, n), -1);
        }
        due("node 3", x.dealt(3, 0, 0), -1);
        due("shape 3", x.dealt(0, 3, 0), -1);
    }

    private void promise15And16TooManyAndWhich() {
        ShapeJudge x = judge("A=0.closed;B=0@B[0 5];C=0.[5 5];D=0!B[0 5],1.[0 0];");
        nodes(x, 6);
        due("needs one more", x.tooMany(0, 0), -4);
        due("which of no use", x.which(0, 0), -4);
        x.edge(0, 0, 3);
        due("fits", x.tooMany(0, 0), 0);
        due("which: none", x.which(0, 0), 0);
        x.edge(0, 0, 1);
        due("one of two", x.tooMany(0, 0), 1);
        due("the first of them", x.which(0, 0), 1);
        x.edge(0, 0, 2);
        due("two of three", x.tooMany(0, 0), 2);
        due("the first two", x.which(0, 0), 3);
        x.edge(0, 0, 4);
        due("three would be too many", x.tooMany(0, 0), -4);
        due("which of three", x.which(0, 0), -4);
        x.cut(0, 0, 4);
        x.cut(0, 0, 2);
        x.edge(0, 1, 2);
        due("one and a stranger", x.tooMany(0, 0), 2);
        due("the stranger must go", x.which(0, 0), 5);
        x.cut(0, 0, 1);
        due("the stranger alone", x.which(0, 0), 2);
        due("one", x.tooMany(0, 0), 1);
        due("others too few", x.tooMany(0, 2), -4);
        readAnew();
        for (int n : WRONG) {
            due("tooMany node " + n, x.tooMany(n, 0), -1);
            due("tooMany shape " + n, x.tooMany(0, n), -1);
            due("which node " + n, x.which(n, 0), -1);
            due("which shape " + n, x.which(0, n), -1);
        }
        due("nothing went", x.count(1), 2);
        due("nothing is read without them afterwards", x.fits(0, 0), 0);
    }

    /** Without an EDGE of its own the NODE is another one to those that go to it. */
    private void readAnew() {
        ShapeJudge x = judge("A=0!B,1.[0 1]closed;B=0.[0 5],1.;");
        nodes(x, 2);
        x.edge(0, 0, 0);
        x.edge(0, 1, 1);
        due("it goes to itself, which is B", x.fits(0, 0), 0);
        due("without 1 it is B no more", x.tooMany(0, 0), 1);
        due("so the edge by 1", x.which(0, 0), 2);
        due("B afterwards", x.fits(0, 1), 1);
    }

    private void promise17Depends() {
        ShapeJudge x = judge("A=0@B;B=0!C,1 1...2;C=0.;D=0@D;E=1@A|1@D;");
        String[] want = {"01100", "00100", "00000", "00010", "11110"};
        for (int s = 0; s < 5; s++) {
            for (int other = 0; other < 5; other++) {
                due("depends " + s + " " + other, x.depends(s, other), want[s].charAt(other) - '0');
            }
        }
        due("depends 5", x.depends(5, 0), -1);
        due("depends on 5", x.depends(0, 5), -1);
        for (int s : WRONG) {
            due("depends " + s, x.depends(s, 0), -1);
            due("depends on " + s, x.depends(0, s), -1);
        }
    }

    private void promise18Part() {
        ShapeJudge x = judge("A=0.,(1@B|2!C)[0 3],9 -9999...9999,3 -1...-1;B=7@C;C=;");
        int[][] want = {{0, 0, 0, 0}, {1, 1, 1, 0}, {2, 2, 2, 0}, {9, 3, -9999, 9999}, {3, 3, -1, -1}};
        for (int p = 0; p < want.length; p++) {
            for (int what = 0; what < 4; what++) {
                due("part " + p + " " + what, x.part(0, p, what), want[p][what]);
            }
            due("part what -1", x.part(0, p, -1), -1);
            due("part what 4", x.part(0, p, 4), -1);
        }
        due("part of B", x.part(1, 0, 0), 7);
        due("no such part", x.part(0, 5, 0), -1);
        due("no part 1 of B", x.part(1, 1, 0), -1);
        due("no part of C", x.part(2, 0, 0), -1);
        due("shape 3", x.part(3, 0, 0), -1);
        for (int s : WRONG) {
            due("part of shape " + s, x.part(s, 0, 0), -1);
            due("part " + s, x.part(0, s, 0), -1);
            due("part what " + s, x.part(0, 0, s), -1);
        }
    }

    private void promise19Told() {
        ShapeJudge x = judge("Z=0.|1.,2.closed;A=closed;M=;");
        int[][] want = {{'Z', 3, 1}, {'A', 0, 1}, {'M', 0, 0}};
        for (int s = 0; s < 3; s++) {
            for (int what = 0; what < 3; what++) {
                due("told " + s + " " + what, x.told(s, what), want[s][what]);
            }
        }
        due("told 3", x.told(3, 0), -1);
        due("told what 3", x.told(0, 3), -1);
        for (int s : WRONG) {
            due("told " + s, x.told(s, 0), -1);
            due("told what " + s, x.told(0, s), -1);
        }
    }

    private void promise20From() {
        ShapeJudge x = new ShapeJudge();
        nodes(x, 4);
        int[][] told = {{9, 0}, {2, 3}, {2, 1}, {0, 3}, {2, 2}};
        for (int[] edge : told) {
            x.edge(1, edge[0], edge[1]);
        }
        int[][] want = {{0, 3}, {2, 1}, {2, 2}, {2, 3}, {9, 0}};
        for (int i = 0; i < 5; i++) {
            due("name of " + i, x.from(1, i, 0), want[i][0]);
            due("node of " + i, x.from(1, i, 1), want[i][1]);
        }
        due("no sixth", x.from(1, 5, 0), -1);
        due("none from 0", x.from(0, 0, 0), -1);
        due("no node 4", x.from(4, 0, 0), -1);
        due("what 2", x.from(1, 0, 2), -1);
        for (int n : WRONG) {
            due("from " + n, x.from(n, 0, 0), -1);
            due("from edge " + n, x.from(1, n, 0), -1);
            due("from what " + n, x.from(1, 0, n), -1);
        }
    }

    private void promise21Reset() {
        ShapeJudge x = judge("A=0 5...5;B=;");
        x.node(true, 5);
        x.node(true, 5);
        x.edge(0, 0, 0);
        x.edge(1, 0, 0);
        Check.tell(x, "A=x");
        Check.put(x, "C=;");
        due("before: fits", x.all(0), 3);
        due("reset", x.reset(), 2);
        due("no nodes", x.count(0), 0);
        due("no edges", x.count(1), 0);
        due("shapes stay", x.count(2), 2);
        due("the tape stays", x.count(3), 3);
        due("the FAULT is as at first", x.fault(), 0);
        due("nobody fits", x.all(1), 0);
        due("numbers from 0 again", x.node(false, 0), 0);
        due("no edge is left", x.from(0, 0, 0), -1);
        due("edges from 1 again", x.edge(0, 0, 0), 1);
        due("no value is left", x.fits(0, 0), 0);
        due("what was on the tape", x.shapes(), 1);
        due("reset again", x.reset(), 1);
        due("and again", x.reset(), 0);
    }

    private void promise22Count() {
        ShapeJudge x = judge("A=0@A;B=;C=0.;");
        nodes(x, 3);
        x.edge(0, 0, 0);
        x.edge(1, 0, 2);
        x.edge(2, 1, 0);
        Check.put(x, "1234567");
        int[] want = {3, 3, 3, 7, 6, 5};
        for (int what = 0; what < 6; what++) {
            due("count " + what, x.count(what), want[what]);
        }
        due("count 6", x.count(6), -1);
        for (int what : WRONG) {
            due("count " + what, x.count(what), -1);
        }
    }
}
