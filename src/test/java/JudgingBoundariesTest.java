import java.util.List;

/** Each sentence on who FITS, who SURELY, what is DEALT and what is too much that names a boundary case. */
public final class JudgingBoundariesTest {
    private final Check check = new Check();

    public static void main(String[] args) {
        JudgingBoundariesTest test = new JudgingBoundariesTest();
        test.partsTake();
        test.wantedEdges();
        test.closedShapes();
        test.dealing();
        test.manyParted();
        test.bracketsInBrackets();
        test.mostCounts();
        test.readings();
        test.longReadings();
        test.levelsOfNot();
        test.dealtInOrder();
        test.fewestEdges();
        test.leastSum();
        test.readAnew();
        test.check.finish("JudgingBoundariesTest");
    }

    private void sentence(String words) {
        check.sentence(words);
    }

    private void due(String call, int got, int want) {
        check.due(call, got, want);
    }

    private ShapeJudge judge(String text, int nodes) {
        return check.judge(text, nodes);
    }

    // ---- who FITS ----

    private void partsTake() {
        sentence("A PART takes an EDGE of its NAME, if that goes to a NODE");
        ShapeJudge x = judge("A=9.;B=9@F;C=9!F;D=9 1...1;E=9@A;F=;", 2);
        due("without an EDGE", x.all(0) + x.all(1) + x.all(2) + x.all(3), 0);
        x.edge(0, 8, 1);
        due("by another NAME", x.all(0) + x.all(1) + x.all(2) + x.all(3), 0);
        x.edge(0, 9, 1);
        due(". any", x.fits(0, 0), 1);
        due("@ one that FITS", x.fits(0, 1), 1);
        due("! one that does not", x.fits(0, 2), 0);
        due("n ... m by its VALUE", x.fits(0, 3), 1);
        due("@ one that does not FIT", x.fits(0, 4), 0);
        x.edge(1, 9, 1);
        due("@ one that FITS by itself", x.fits(0, 4), 1);
        sentence("n ... m one with a VALUE");
        x.value(1, false, 1);
        due("none", x.fits(0, 3), 0);
        due("none is any still", x.fits(0, 0), 1);
    }

    private void wantedEdges() {
        sentence("WANTED EDGES of a NODE are those with NAMES of its PARTS");
        ShapeJudge x = judge("A=0.[0 0],9 5...5|(4@A)[0 0];B=;C=closed;D=0.,0.,0.,0.,0.,0.;", 10);
        due("of none", x.wanted(0, 0), 0);
        for (int to = 0; to < 5; to++) {
            x.edge(0, 0, to);
        }
        due("five, though [0 0]", x.wanted(0, 0), 5);
        due("each once, by six PARTS", x.wanted(0, 3), 5);
        due("of no PARTS", x.wanted(0, 1), 0);
        due("of no PARTS, closed", x.wanted(0, 2), 0);
        x.edge(1, 0, 0);
        x.edge(1, 4, 1);
        x.edge(1, 5, 1);
        x.edge(1, 8, 1);
        x.edge(1, 9, 1);
        due("three of five", x.wanted(1, 0), 3);
        due("FITS B without any WANTED", x.fits(1, 1), 1);
        due("an EDGE that no PART may have", x.fits(1, 0), 0);
    }

    private void closedShapes() {
        sentence("if it is closed, it has no others");
        ShapeJudge x = judge("A=0.[0 5]closed;B=closed;C=0.[0 5];D=;", 2);
        due("none at all", x.count(4), 8);
        x.edge(0, 0, 0);
        due("only WANTED", x.fits(0, 0), 1);
        due("others of B", x.fits(0, 1), 0);
        due("not closed", x.fits(0, 3), 1);
        x.edge(0, 1, 0);
        due("one other", x.fits(0, 0), 0);
        due("one other, not closed", x.fits(0, 2), 1);
        x.cut(0, 0, 0);
        due("others alone", x.fits(0, 0), 0);
        due("others alone, not closed", x.fits(0, 2), 1);
        due("who goes there is not asked", x.fits(1, 0), 1);
    }

    /** The numbers of EDGES by NAME 0 that FIT, as a sum of 2 to each. */
    private int fittingNumbers(String any) {
        ShapeJudge x = judge("A=" + any + ";", 6);
        int sum = 0;
        for (int many = 0; many <= 5; many++) {
            sum += x.fits(0, 0) << many;
            x.edge(0, 0, many);
        }
        return sum;
    }

    private void dealing() {
        sentence("without one both are 1");
        due("0.", fittingNumbers("0."), 0b000010);
        due("(0.)", fittingNumbers("(0.)"), 0b000010);
        due("(0.,0.)", fittingNumbers("(0.,0.)"), 0b000100);
        sentence("item with a count: parted into so many as may be");
        for (int least = 0; least <= 5; least++) {
            for (int greatest = least; greatest <= 5; greatest++) {
                String count = "[" + least + " " + greatest + "]";
                int want = (2 << greatest) - (1 << least);
                due(count, fittingNumbers("0." + count), want);
                due(count + " of a bracket", fittingNumbers("(0.)" + count), want);
                due("[1 1] of " + count, fittingNumbers("(0." + count + ")[1 1]"), want);
                due(count + " of [0 1]", fittingNumbers("(0.[0 1])" + count), (2 << greatest) - 1);
                due(count + " of [0 0]", fittingNumbers("(0.[0 0])" + count), 1);
                due("[0 1] of " + count, fittingNumbers("(0." + count + ")[0 1]"), want | 1);
                due("[0 0] of " + count, fittingNumbers("(0." + count + ")[0 0]"), 1);
            }
        }
        due("twos", fittingNumbers("(0.[2 2])[0 5]"), 0b010101);
        due("threes", fittingNumbers("(0.[3 3])[0 5]"), 0b001001);
        due("twos and threes", fittingNumbers("(0.[2 3])[0 5]"), 0b111101);
        due("fives", fittingNumbers("(0.[5 5])[0 5]"), 0b100001);
        due("two fives at least", fittingNumbers("(0.[5 5])[2 5]"), 0);
        due("five nothings", fittingNumbers("(0.[0 0]|0.[3 3])[5 5]"), 0b001001);
        sentence("each: parted among the items");
        due("five of five", fittingNumbers("0.,0.,0.,0.,0."), 0b100000);
        due("six of five", fittingNumbers("0.,0.,0.,0.,0.,0."), 0);
        due("six, one of which may be nothing", fittingNumbers("0.,0.,0.,0.,0.,0.[0 1]"), 0b100000);
        due("nothing and nothing", fittingNumbers("0.[0 0],0.[0 0]"), 1);
        sentence("any: to one of them");
        due("one or three", fittingNumbers("0.|0.,0.,0."), 0b001010);
        due("nothing or five", fittingNumbers("0.[0 0]|0.[5 5]"), 0b100001);
        due("six ways", fittingNumbers("0.|0.|0.[0 0]|0.[3 3]|0.|0.[5 5]"), 0b101011);
        sentence("nothing (a SHAPE without any): no EDGES");
        ShapeJudge x = judge("A=;B=closed;", 1);
        due("no EDGES", x.count(4), 2);
        x.edge(0, 0, 0);
        due("none is WANTED", x.fits(0, 0), 1);
        due("dealt", x.dealt(0, 0, 0), -4);
        due("closed", x.fits(0, 1), 0);
    }

    private void manyParted() {
        sentence("each DEALT to what is ahead of the count");
        ShapeJudge x = judge("A=(0.,1.|2.,3.)[2 2];B=(0.|1.,(2.|3.))[0 5];C=(0.[1 2],1.)[2 2];", 3);
        x.edge(0, 0, 0);
        x.edge(0, 1, 0);
        x.edge(0, 2, 0);
        due("one way and a half", x.fits(0, 0), 0);
        due("one and one", x.fits(0, 1), 1);
        x.edge(0, 3, 0);
        due("each its own way", x.fits(0, 0), 1);
        due("3 has no 1", x.fits(0, 1), 0);
        x.edge(0, 1, 1);
        due("now it has", x.fits(0, 1), 1);
        due("a fifth too many", x.fits(0, 0), 0);
        x.cut(0, 2, 0);
        x.cut(0, 3, 0);
        due("one 0 for two 1s", x.fits(0, 2), 0);
        x.edge(0, 0, 1);
        due("two 0s", x.fits(0, 2), 1);
        x.edge(0, 0, 2);
        due("three 0s", x.fits(0, 2), 1);
        x.cut(0, 1, 0);
        due("three 0s for one 1", x.fits(0, 2), 0);
    }

    /** EDGES by such NAMES; whether they FIT. */
    private int fitsNames(String any, String names) {
        ShapeJudge x = judge("A=" + any + ";", 1);
        for (int i = 0; i < names.length(); i++) {
            x.edge(0, names.charAt(i) - '0', 0);
        }
        return x.fits(0, 0);
    }

    /** Each set of the NAMES below 5; those that FIT, as a sum of 2 to the number of the set. */
    private void fitSets(String any, String... fitting) {
        for (int set = 0; set < 32; set++) {
            StringBuilder names = new StringBuilder();
            for (int name = 0; name < 5; name++) {
                names.append((set >> name & 1) != 0 ? String.valueOf(name) : "");
            }
            int want = List.of(fitting).contains(names.toString()) ? 1 : 0;
            due(any + " by '" + names + "'", fitsNames(any, names.toString()), want);
        }
    }

    private void bracketsInBrackets() {
        sentence("any: each { | each }, each: item { , item }, one: ( any )");
        fitSets("0.,1.,2.,3.,4.", "01234");
        fitSets("0.,(1.,2.),(3.,4.)", "01234");
        fitSets("(0.,1.),(2.,3.),4.", "01234");
        fitSets("((0.,1.),2.),(3.,4.)", "01234");
        fitSets("0.,(1.,(2.,(3.,4.)))", "01234");
        fitSets("0.|1.|2.|3.|4.", "0", "1", "2", "3", "4");
        fitSets("(0.|(1.|2.))|(3.|4.)", "0", "1", "2", "3", "4");
        fitSets("(0.|1.),(2.|3.),4.", "024", "034", "124", "134");
        fitSets("4.,(0.|1.),(2.|3.)", "024", "034", "124", "134");
        fitSets("(0.,1.|2.),(3.|4.)", "013", "014", "23", "24");
        fitSets("0.,1.|2.,3.|4.", "01", "23", "4");
        fitSets("0.|1.,2.|3.,4.", "0", "12", "34");
        fitSets("0.,(1.|2.,3.),4.", "014", "0234");
        fitSets("0.|(1.,(2.|3.))|4.", "0", "12", "13", "4");
        fitSets("(0.|1.,(2.|3.,4.)),(0.)[0 1]", "0", "12", "012", "134", "0134");
        fitSets("((0.|1.)|2.),((3.)|4.)", "03", "04", "13", "14", "23", "24");
        fitSets("(((((0.,1.),2.|3.))))|4.", "012", "3", "4");
    }

    /** As many counts as THE TAPE has room for, and of each SHAPE as many PARTS as may be. */
    private void mostCounts() {
        sentence("THE TAPE has 400 bytes, SHAPES (6), PARTS (6 in one)");
        String parts = "0.[0 1],1.[0 1],2.[0 1],3.[0 1],4.[0 1],";
        StringBuilder text = new StringBuilder();
        for (int s = 0; s < 6; s++) {
            String last = s < 5 ? "((0.[0 1])[0 1])[0 1]" : "(((0.[0 1])[0 1])[0 1])[1 1]";
            text.append((char) ('A' + s)).append('=').append(parts).append(last).append(';');
        }
        ShapeJudge x = judge(text + " ".repeat(400 - text.length()), 10);
        due("none", x.count(4), 60);
        for (int name = 0; name < 5; name++) {
            x.edge(9, name, 9);
        }
        due("one of each", x.count(4), 60);
        due("the first of F", x.dealt(9, 5, 0), 0);
        x.cut(9, 4, 9);
        x.edge(9, 0, 8);
        due("two of 0", x.count(4), 60);
        due("again the first of F", x.dealt(9, 5, 0), 0);
        due("the second of F", x.dealt(9, 5, 1), 5);
        x.cut(9, 3, 9);
        x.edge(9, 0, 7);
        due("three of 0", x.count(4), 54);
    }

    private void readings() {
        sentence("all that is not behind a ! is taken to FIT, until it does not");
        ShapeJudge x = judge("A=0@A;B=0@C;C=0@B;D=0!A|0@D;", 2);
        x.edge(0, 0, 0);
        due("by itself", x.all(0), 1);
        due("by each other", x.all(1) + x.all(2), 2);
        due("! of what FITS so", x.fits(0, 3), 1);
        x.edge(1, 0, 1);
        x.edge(1, 0, 0);
        due("one EDGE too many", x.all(0), 1);
        sentence("SURELY: what is behind @ is taken not to FIT, until it does");
        due("not by itself", x.surely(0, 0), 0);
        due("not by each other", x.surely(0, 1) + x.surely(0, 2), 0);
        due("of ! as the greatest reading tells", x.surely(0, 3), 0);
        due("none at all", x.count(5), 0);
        x.cut(1, 0, 1);
        x.cut(1, 0, 0);
        x.cut(0, 0, 0);
        x.edge(0, 0, 1);
        due("! of what does not FIT", x.surely(0, 3), 1);
        due("only that", x.count(5), 1);
        due("and by the greatest", x.count(4), 1);
    }

    /** Each turn of the reading tells of just one more of the sixty pairs of a NODE and a SHAPE. */
    private void longReadings() {
        String round = "A=0@A|1@B;B=0@B|1@C;C=0@C|1@D;D=0@D|1@E;E=0@E|1@F;";
        sentence("is taken to FIT, until it does not: sixty pairs, one by one");
        ShapeJudge x = judge(round + "F=0@F;", 10);
        sentence("is taken not to FIT, until it does: sixty pairs, one by one");
        ShapeJudge y = judge(round + "F=0@F|1.;", 10);
        for (int n = 0; n < 10; n++) {
            x.edge(n, n < 9 ? 0 : 1, (n + 1) % 10);
            y.edge(n, n < 9 ? 0 : 1, (n + 1) % 10);
        }
        due("no pair FITS", x.count(4), 0);
        due("no pair SURELY", x.count(5), 0);
        due("all pairs FIT", y.count(4), 60);
        due("all pairs SURELY", y.count(5), 60);
        x.cut(9, 1, 0);
        x.edge(9, 0, 0);
        due("a circle FITS", x.count(4), 60);
        due("not SURELY", x.count(5), 0);
    }

    private void levelsOfNot() {
        sentence("SHAPES behind a ! are wholly read ahead of those in which they stand");
        for (int turn = 0; turn < 6; turn++) {
            StringBuilder text = new StringBuilder();
            for (int i = 0; i < 6; i++) {
                char word = (char) ('A' + (i + turn) % 6);
                String other = String.valueOf((char) (word + 1));
                text.append(word).append(word < 'F' ? "=0!" + other + ",1@" + word + "[0 5];" : "=0@F;");
            }
            ShapeJudge x = judge(text.toString(), 2);
            x.edge(0, 0, 0);
            x.edge(1, 0, 0);
            for (int i = 0; i < 6; i++) {
                int shape = (i - turn + 6) % 6;
                due("word " + x.told(shape, 0) + " at " + shape, x.all(shape), (5 - i) % 2 == 0 ? 3 : 0);
            }
        }
        sentence("behind a ! of one that is behind @");
        ShapeJudge y = judge("A=0@B,1.[0 1];B=0@B,2!C[0 5];C=0@D;D=0@C,3.;", 1);
        y.edge(0, 0, 0);
        y.edge(0, 2, 0);
        due("C does not FIT, so A does", y.fits(0, 0), 1);
        y.edge(0, 3, 0);
        due("C FITS, so A does not", y.fits(0, 0), 0);
    }

    // ---- promises 14 to 16 ----

    private void dealtInOrder() {
        sentence("EDGE i of a NODE (0 on, in order): also those that are not WANTED count");
        ShapeJudge x = judge("A=1.,3.,5.;B=0.|0.,0.;C=0.,0.,0.,0.,0 9...9,0.[0 5];", 10);
        for (int name = 1; name <= 5; name++) {
            x.edge(0, name, 0);
        }
        for (int i = 0; i < 5; i++) {
            due("edge " + i, x.dealt(0, 0, i), i % 2 == 0 ? i / 2 : -4);
        }
        due("edge 5", x.dealt(0, 0, 5), -1);
        due("edge -1", x.dealt(0, 0, -1), -1);
        due("does not FIT", x.dealt(0, 1, 0), -2);
        sentence("each to the least PART by which the WANTED EDGES can be DEALT, those ahead as told");
        x.edge(1, 0, 5);
        due("one", x.dealt(1, 1, 0), 0);
        x.edge(1, 0, 6);
        due("of two the first", x.dealt(1, 1, 0), 1);
        due("of two the second", x.dealt(1, 1, 1), 2);
        x.edge(1, 0, 7);
        x.edge(1, 0, 8);
        due("four, but none is 9", x.dealt(1, 2, 0), -2);
        x.edge(1, 0, 9);
        for (int i = 0; i < 5; i++) {
            due("of five " + i, x.dealt(1, 2, i), i);
            due("once more of five " + i, x.dealt(1, 2, 4 - i), 4 - i);
        }
        Check.tell(x, "A=0 9...9[0 1],0 8...9[0 1],0 7...8[0 1],0 6...7[0 1],0 5...6[0 1],0 5...5[0 1];");
        int[] want = {4, 3, 2, 1, 0};
        for (int i = 0; i < 5; i++) {
            due("the least PART of " + i, x.dealt(1, 0, i), want[i]);
        }
        Check.tell(x, "A=0 1...1,0 1...1,0 1...1,0 1...1,0 1...1|0.[0 5];");
        due("PART 5 alone", x.dealt(1, 0, 0) * 10 + x.dealt(1, 0, 4), 55);
    }

    private void fewestEdges() {
        sentence("The fewest EDGES of a NODE (2 at most) without which it would FIT; 0: it does; NONE: not by two");
        ShapeJudge x = judge("A=0.[0 0];B=0.;C=closed;D=0.[5 5];E=0.[3 5]closed;", 6);
        due("without EDGES it FITS", x.tooMany(0, 0), 0);
        due("without EDGES it needs one", x.tooMany(0, 1), -4);
        due("which: none", x.which(0, 0), 0);
        due("which: NONE", x.which(0, 1), -4);
        for (int many = 1; many <= 5; many++) {
            x.edge(0, 0, many);
            due(many + " of A", x.tooMany(0, 0), many <= 2 ? many : -4);
            due(many + " of B", x.tooMany(0, 1), many <= 3 ? many - 1 : -4);
            due(many + " of C", x.tooMany(0, 2), many <= 2 ? many : -4);
            due(many + " of D", x.tooMany(0, 3), many == 5 ? 0 : -4);
            due(many + " of E", x.tooMany(0, 4), many >= 3 ? 0 : -4);
            due("which of A", x.which(0, 0), many <= 2 ? (1 << many) - 1 : -4);
            due("which of B", x.which(0, 1), many <= 3 ? (1 << many - 1) - 1 : -4);
        }
        x.cut(0, 0, 1);
        x.edge(0, 1, 1);
        due("a stranger", x.tooMany(0, 4), 1);
        due("it is the last", x.which(0, 4), 16);
        x.cut(0, 0, 2);
        x.edge(0, 1, 2);
        due("two strangers", x.tooMany(0, 4), 2);
        due("they are the last", x.which(0, 4), 24);
        x.cut(0, 0, 3);
        x.edge(0, 1, 3);
        due("three strangers", x.tooMany(0, 4), -4);
    }

    private void leastSum() {
        sentence("of several such the least sum");
        ShapeJudge x = judge("A=0 1...1,0 2...2|0 0...0,0 3...3;B=0 0...2[3 3]|0 2...3,0 2...3;", 5);
        for (int to = 0; to < 4; to++) {
            x.edge(4, 0, to);
        }
        due("two", x.tooMany(4, 0), 2);
        due("1 and 2 are less than 0 and 3", x.which(4, 0), 6);
        due("one goes ahead of two", x.tooMany(4, 1), 1);
        due("though two have the less sum", x.which(4, 1), 8);
        x.edge(4, 0, 4);
        due("three must go", x.which(4, 0), -4);
        Check.tell(x, "A=0.[4 4];B=0.[3 3];C=0 0...3[4 4]|0.[2 2];");
        due("of five the first", x.which(4, 0), 1);
        due("of five the first two", x.which(4, 1), 3);
        due("of five the last", x.which(4, 2), 16);
    }

    private void readAnew() {
        sentence("all read anew without them");
        ShapeJudge x = judge("A=0@B;B=1@C;C=2.[0 0];", 2);
        x.edge(0, 0, 1);
        x.edge(1, 1, 0);
        x.edge(0, 2, 1);
        due("C is told by its own EDGE", x.fits(0, 0), 0);
        due("without it", x.tooMany(0, 0), 1);
        due("it is the second", x.which(0, 0), 2);
        Check.tell(x, "A=0@B,2.[0 0];B=1@C;C=2.;");
        due("another of which takes C away", x.tooMany(0, 0), -4);
        Check.tell(x, "A=0!B,2.[0 0];B=1@C;C=2.;");
        due("which is as ! wants it", x.which(0, 0), 2);
        due("afterwards all is as before", x.all(1), 2);
        due("of C too", x.all(2), 1);
    }
}
