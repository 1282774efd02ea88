import java.util.Arrays;

/** Each sentence on THE TAPE, its TOKENS, its text and its FAULTS that names a boundary case. */
public final class TextBoundariesTest {
    private static final String[] TOKENS = {
        "W", "closed", "1", "=", ";", ",", "|", "(", ")", "[", "]", "@", "!", ".", "...", ""
    };
    // What stands ahead, and behind the first blank, the TOKENS that can stand there; END is the end.
    private static final String[][] PLACES = {
        {"", "W"}, {"   ", "W"},
        {"A=;", "W END"}, {"A=closed;", "W END"}, {"A=0.;", "W END"},
        {"A", "="}, {"A=;B", "="},
        {"A=", "1 ( closed ;"}, {"A=;B=", "1 ( closed ;"},
        {"A=(", "1 ("}, {"A=((", "1 ("}, {"A=0.,", "1 ("}, {"A=0.|", "1 ("}, {"A=0.[0 1],", "1 ("},
        {"A=(0.,", "1 ("}, {"A=(0.|", "1 ("}, {"A=(0.),", "1 ("}, {"A=(0.)|", "1 ("}, {"A=(0.[0 1]|", "1 ("},
        {"A=0", ". @ ! 1"}, {"A=(0", ". @ ! 1"},
        {"A=0@", "W"}, {"A=0!", "W"}, {"A=(0@", "W"},
        {"A=0 1", "..."}, {"A=(0 1", "..."},
        {"A=0 1...", "1"}, {"A=(0 1...", "1"},
        {"A=0.", "[ , | closed ;"}, {"A=0@A", "[ , | closed ;"}, {"B=;A=0!B", "[ , | closed ;"},
        {"A=0 1...2", "[ , | closed ;"}, {"A=(0.)", "[ , | closed ;"}, {"A=0.,1.", "[ , | closed ;"},
        {"A=0.|1.", "[ , | closed ;"},
        {"A=(0.", "[ , | )"}, {"A=(0@A", "[ , | )"}, {"A=(0 1...2", "[ , | )"}, {"A=((0.)", "[ , | )"},
        {"A=(0.,1.", "[ , | )"}, {"A=(0.|1.", "[ , | )"},
        {"A=0.[", "1"}, {"A=(0.)[", "1"}, {"A=0.[1", "1"}, {"A=(0.[1", "1"}, {"A=0.[1 2", "]"}, {"A=(0.)[1 2", "]"},
        {"A=0.[1 2]", ", | closed ;"}, {"A=(0.)[1 2]", ", | closed ;"}, {"A=0.,1.[1 2]", ", | closed ;"},
        {"A=(0.[1 2]", ", | )"}, {"A=((0.)[1 2]", ", | )"},
        {"A=closed", ";"}, {"A=0.closed", ";"}, {"A=(0.)closed", ";"}, {"A=0.[1 2]closed", ";"},
    };

    private final Check check = new Check();

    public static void main(String[] args) {
        TextBoundariesTest test = new TextBoundariesTest();
        test.tapeAndPlaces();
        test.bytesThatBeginTokens();
        test.longestTokens();
        test.blanks();
        test.numbers();
        test.whatCanStandWhere();
        test.shapesAndNames();
        test.parts();
        test.counts();
        test.ranges();
        test.brackets();
        test.wordsBehind();
        test.firstMet();
        test.check.finish("TextBoundariesTest");
    }

    private void sentence(String words) {
        check.sentence(words);
    }

    private void due(String call, int got, int want) {
        check.due(call, got, want);
    }

    private void fault(String text, int kind, int place) {
        ShapeJudge x = new ShapeJudge();
        due("shapes of '" + text + "'", Check.tell(x, text), -10 - place);
        due("fault of '" + text + "'", x.fault(), kind);
        due("SHAPES by '" + text + "'", x.count(2), 0);
        due("bytes behind '" + text + "'", x.count(3), 0);
    }

    private ShapeJudge told(String text, int shapes) {
        ShapeJudge x = new ShapeJudge();
        due("shapes of '" + text + "'", Check.tell(x, text), shapes);
        due("fault of '" + text + "'", x.fault(), 0);
        due("SHAPES by '" + text + "'", x.count(2), shapes);
        due("bytes behind '" + text + "'", x.count(3), 0);
        return x;
    }

    private void tapeAndPlaces() {
        sentence("THE TAPE has 400 bytes, places from 0");
        fault("#", 1, 0);
        fault(" ".repeat(399) + "#", 1, 399);
        fault("A=;" + " ".repeat(396) + "=", 2, 399);
        told("A=;" + " ".repeat(397), 1);
        told("A=" + " ".repeat(391) + "closed;", 1);
        sentence("what was on THE TAPE ahead of its end is not read");
        ShapeJudge x = new ShapeJudge();
        Check.put(x, "A=;B=;closed");
        x.end(11);
        due("a WORD that is cut off", x.shapes(), -16);
        due("its FAULT", x.fault(), 1);
        Check.put(x, "A=0 1...22");
        x.end(8);
        due("a NUMBER that is cut off", x.shapes(), -18);
        due("the end stands there", x.fault(), 2);
        Check.put(x, "A=0 1...");
        x.end(7);
        due("a SIGN that is cut off", x.shapes(), -15);
        due("a . stands there", x.fault(), 2);
        Check.put(x, "A=;#");
        x.end(3);
        due("a byte that is cut off", x.shapes(), 1);
    }

    /** Each of the 256 bytes alone, and where a SIGN or a figure could stand. */
    private void bytesThatBeginTokens() {
        sentence("WORDS (A .. Z), NUMBERS, closed, SIGNS; no TOKEN is 1");
        for (int b = 0; b < 256; b++) {
            String text = String.valueOf((char) b);
            boolean isWord = b >= 'A' && b <= 'Z';
            boolean isFigure = b >= '0' && b <= '9';
            boolean isSign = b != 0 && "=;,|()[]@!.".indexOf(b) >= 0;
            boolean isBlank = b == 32;
            int kind = isWord || isFigure || isSign || isBlank ? 2 : 1;
            fault(text, kind, isWord || isBlank ? 1 : 0);
            if (!isBlank && b != ';') {
                fault("A=closed" + text, kind, 8);
            }
            if (!isBlank && !isWord) {
                fault("A=0.;" + text, kind, 5);
            }
            if (isWord) {
                due("the WORD of " + text, told(text + "=;", 1).told(0, 0), b);
            }
            if (isFigure) {
                due("the NAME " + text, told("A=" + text + ".;", 1).part(0, 0, 0), b - '0');
            }
        }
        String closed = "closed";
        for (int i = 0; i < closed.length(); i++) {
            fault("A=" + closed.substring(0, i) + "x" + closed.substring(i + 1) + ";", 1, 2);
            fault("A=" + closed.substring(0, i), i == 0 ? 2 : 1, 2);
            if (i > 0) {
                fault("A=" + closed.substring(0, i) + " " + closed.substring(i) + ";", 1, 2);
            }
        }
    }

    private void longestTokens() {
        sentence("TOKENS, each as long as may be");
        fault("A=0.... ;", 2, 3);
        fault("A=0 1....;", 2, 8);
        fault("A=0 1......2;", 2, 8);
        fault("A=0 1..;", 2, 5);
        fault("A=0..", 2, 4);
        fault("A=0 1.. .2;", 2, 5);
        due("the first of ...", told("A=0 12...0345;", 1).part(0, 0, 2), 12);
        due("the second of ...", told("A=0 12...0345;", 1).part(0, 0, 3), 345);
        due("one NUMBER of two figures", told("A=01 1...2;", 1).part(0, 0, 0), 1);
        fault("AA=;", 2, 1);
        told("A=closed;B=closed;", 2);
        fault("A=closedclosed;", 2, 8);
    }

    private void blanks() {
        sentence("blanks (32) ahead, between, behind, as many as wanted");
        told("   A   =   0   1   ...   2   [   0   1   ]   ,   (   1   @   A   )   |   2   .   closed   ;   ", 1);
        for (char other : new char[] {0, 9, 10, 11, 12, 13, 31, 33, 160}) {
            fault("A=0.;" + other, other == 33 ? 2 : 1, 5);
        }
        sentence("none is needed");
        told("A=0.,1@A|2!B,(3 1...2)[0 1]closed;B=;", 2);
        sentence("but between two NUMBERS side by side, the second one without a -");
        due("NAME and first NUMBER", told("A=1-2...3;", 1).part(0, 0, 2), -2);
        fault("A=12...3;", 3, 2);
        fault("A=1.[01];", 2, 7);
        fault("A=1.[0-0]", 2, 9);
        told("A=1.[0-0];", 1);
        told("A=1 2...3[0 1];", 1);
        fault("A=1 2...3 4;", 2, 10);
    }

    private void numbers() {
        sentence("NUMBERS (1 to 4 figures, perhaps a - right ahead)");
        due("four figures", told("A=0 9999...9999;", 1).part(0, 0, 2), 9999);
        due("four figures and a -", told("A=0-9999...-9999;", 1).part(0, 0, 3), -9999);
        due("one figure", told("A=0 0...0;", 1).part(0, 0, 2), 0);
        due("0s ahead", told("A=0 0007...0008;", 1).part(0, 0, 3), 8);
        due("0s ahead of a NAME", told("A=0009.;", 1).part(0, 0, 0), 9);
        due("-0", told("A=-0-0...-0;", 1).part(0, 0, 2), 0);
        sentence("1 a NUMBER that is too long, or a - alone (its first byte)");
        fault("A=00000.;", 1, 2);
        fault("A=-00000.;", 1, 2);
        fault("A=0 10000...1;", 1, 4);
        fault("A=0 1...99999999999999999999;", 1, 8);
        fault("A=0 1...-10000;", 1, 8);
        fault("A=0.[00000 1];", 1, 5);
        fault("A=-.;", 1, 2);
        fault("A=- 1.;", 1, 2);
        fault("A=--1.;", 1, 2);
        fault("A=0-", 1, 3);
        fault("A=0-A", 1, 3);
        fault("A=0 1...-;", 1, 8);
        fault("12345", 1, 0);
        fault("1234", 2, 0);
    }

    private void whatCanStandWhere() {
        sentence("2 a TOKEN that can not stand there (or the end: the length)");
        for (String[] place : PLACES) {
            String[] fitting = place[1].split(" ");
            String ahead = place[0] + " ";
            for (String token : TOKENS) {
                boolean canStand = Arrays.asList(fitting).contains(token.isEmpty() ? "END" : token);
                ShapeJudge x = new ShapeJudge();
                int answer = Check.tell(x, ahead + token);
                if (canStand) {
                    check.holds("'" + token + "' behind '" + ahead + "', not " + answer,
                        answer > 0 || answer < -10 - ahead.length());
                } else {
                    fault(ahead + token, 2, ahead.length());
                }
            }
            sentence("1 no TOKEN, wherever it stands");
            fault(ahead + "#", 1, ahead.length());
            fault(ahead + "close", 1, ahead.length());
            fault(ahead + "12345", 1, ahead.length());
            fault(ahead + "-", 1, ahead.length());
            sentence("2 a TOKEN that can not stand there (or the end: the length)");
        }
        sentence("text: shape { shape }: the empty tape has none");
        fault("", 2, 0);
        fault(" ".repeat(400), 2, 400);
    }

    private void shapesAndNames() {
        sentence("SHAPES (6) are numbered as they are told");
        ShapeJudge six = told("F=;Z=;A=;M=;B=;Y=;", 6);
        for (int s = 0; s < 6; s++) {
            due("the WORD of " + s, six.told(s, 0), "FZAMBY".charAt(s));
        }
        due("no SHAPE 6", six.told(6, 0), -1);
        due("none fits SHAPE 6", six.all(6), -1);
        sentence("4 the seventh SHAPE (its WORD)");
        fault("F=;Z=;A=;M=;B=;Y=;X", 4, 18);
        fault("F=;Z=;A=;M=;B=;Y=; X=0.;", 4, 19);
        fault("F=;Z=;A=;M=;B=;Y=;F=;", 4, 18);
        fault("F=;Z=;A=;M=;B=;Y=;1", 2, 18);
        fault("F=;Z=;A=;M=;B=;Y=;x", 1, 18);
        sentence("5 a SHAPE's WORD that is told already");
        fault("A=;A", 5, 3);
        fault("A=;B=;C=;D=;E=;A=;", 5, 15);
        fault("A=;B=;C=;D=;E=;E=;", 5, 15);
        told("A=0@A,0@A;", 1);
        sentence("An edge's first NUMBER is a NAME (0 to 9)");
        due("0", told("A=0.;", 1).part(0, 0, 0), 0);
        due("9", told("A=9.;", 1).part(0, 0, 0), 9);
        fault("A=10.;", 3, 2);
        fault("A=-1.;", 3, 2);
        fault("A=9999.;", 3, 2);
        fault("A=-9999.;", 3, 2);
        fault("A=0.,(1.|10.);", 3, 9);
    }

    private void parts() {
        sentence("PARTS (6 in one), numbered from 0 on as told");
        ShapeJudge x = told("A=5.,(4.|(3.,2.)[0 1])|1.,0.;B=9.;", 2);
        for (int p = 0; p < 6; p++) {
            due("NAME of PART " + p, x.part(0, p, 0), 5 - p);
        }
        due("six", x.told(0, 1), 6);
        due("no PART 6", x.part(0, 6, 0), -1);
        due("those of the next from 0 on", x.part(1, 0, 0), 9);
        sentence("4 the seventh PART of one (its NAME)");
        fault("A=0.,0.,0.,0.,0.,0.,0", 4, 20);
        fault("A=0.|0.|0.|0.|0.|0.| 7.;", 4, 21);
        fault("A=(0.,0.,0.),(0.,0.,0.,0.);", 4, 23);
        fault("A=;B=0.,0.,0.,0.,0.,0.,0.;", 4, 23);
        fault("A=0.,0.,0.,0.,0.,0.,(", 2, 21);
        fault("A=0.,0.,0.,0.,0.,0.,x", 1, 20);
        String six = "0.,0.,0.,0.,0.,0.";
        due("six in each of six", told("A=" + six + ";B=" + six + ";C=" + six + ";D=" + six + ";E=" + six
            + ";F=" + six + ";", 6).part(5, 5, 0), 0);
    }

    private void counts() {
        sentence("A count: the least, the greatest how often (0 to 5 each)");
        for (int least = -1; least <= 6; least++) {
            for (int greatest = -1; greatest <= 6; greatest++) {
                String text = "A=0.[" + least + " " + greatest + "];";
                int second = text.lastIndexOf(' ') + 1;
                if (least < 0 || least > 5) {
                    fault(text, 3, 5);
                } else if (greatest > 5 || greatest < least) {
                    fault(text, 3, second);
                } else {
                    told(text, 1);
                }
            }
        }
        fault("A=(0.,1.)[0 6];", 3, 12);
        fault("A=(0.,1.)[6 6];", 3, 10);
        fault("A=0.[9999 9999];", 3, 5);
        sentence("as many counts as THE TAPE has room for");
        String most = "A=((((((0.[0 1])[0 1])[0 1])[0 1])[0 1])[0 1])[0 1];";
        told(most, 1);
        sentence("3 a second one (of a count) that is below the first one (at it)");
        fault("A=0.[5 4];", 3, 7);
        fault("A=0.[1   0", 3, 9);
        fault("A=0.[1-1];", 3, 6);
        told("A=0.[5 5];", 1);
    }

    private void ranges() {
        sentence("3 a second one (of ...) that is below the first one (at it)");
        fault("A=0 1...0;", 3, 8);
        fault("A=0 1... 0", 3, 9);
        fault("A=0 0...-1;", 3, 8);
        fault("A=0-1...-2;", 3, 8);
        fault("A=0 9999...-9999;", 3, 11);
        fault("A=0 9999...9998;", 3, 11);
        told("A=0-9999...-9998;", 1);
        told("A=0 0...0;", 1);
        told("A=0 -1...0;", 1);
        told("A=0 6...9;", 1);
    }

    private void brackets() {
        sentence("4 a seventh ( within others");
        told("A=((((((0.))))));", 1);
        fault("A=(((((((", 4, 8);
        fault("A=((((((0.,(1.)))))));", 4, 11);
        fault("A=((((((0.)|(1.)|(2.,(3.))))))));", 4, 21);
        told("A=((((((0.)))))),((((((1.))))))|((((((2.))))));", 1);
        told("A=((((((0.)))))),(1.);B=((((((0.))))));", 2);
        fault("A=((((((0.))))));B=(((((((", 4, 25);
    }

    private void wordsBehind() {
        sentence("6 a WORD behind @, ! that is no SHAPE's, by places");
        fault("A=0@B;", 6, 4);
        fault("A=0!B;", 6, 4);
        fault("A=0@A,0@Z,0@Y;", 6, 8);
        fault("A=0!Z,0@Y;", 6, 4);
        fault("A=0@B;B=1@A,1 1...2,1@ C;", 6, 23);
        due("one that is told later", told("A=0@F;B=;C=;D=;E=;F=;", 6).part(0, 0, 2), 5);
        due("one that is told ahead", told("A=;B=;C=;D=;E=;F=0!A;", 6).part(5, 0, 2), 0);
        sentence("7 a WORD behind a ! whose SHAPE depends on the one in which it stands (the first by places)");
        fault("A=0!A;", 7, 4);
        fault("A=0@A,0!A;", 7, 8);
        fault("A=0@B,0!B;B=0@A;", 7, 8);
        fault("A=0@B;B=0!C;C=0@A;", 7, 10);
        fault("A=0!B;B=0!C;C=0!A;", 7, 4);
        fault("A=0@B;B=0@C;C=0@D;D=0@E;E=0@F;F=0!A;", 7, 34);
        fault("A=0!B;B=0@C;C=0@D;D=0@E;E=0@F;F=0@A;", 7, 4);
        told("A=0!B;B=0!C;C=0!D;D=0!E;E=0!F;F=;", 6);
        told("A=0@A,0!B;B=0@B;", 2);
        told("A=0@B,0!C;B=0@A,0!C;C=0@D;D=0@C;", 4);
        sentence("6 ahead of 7");
        fault("A=0!A,0@Z;", 6, 8);
        fault("A=0!A;B=0!B;C=0!Z;", 6, 16);
    }

    private void firstMet() {
        sentence("FAULTS, the first met as it is read");
        fault("A=0!A;B=0@Z;C", 2, 13);
        fault("A=0@Z;#", 1, 6);
        fault("A=0@Z;A", 5, 6);
        fault("A=0@Z,10.", 3, 6);
        fault("A=0@Z|(((((((", 4, 12);
        sentence("(a TOKEN is read when the one before has been taken)");
        fault("A=10#", 3, 2);
        fault("A=;A#", 5, 3);
        fault("A=;;#", 2, 3);
        fault("A=0.[6#", 3, 5);
        fault("A=0.[2 1#", 3, 7);
        fault("A=0 2...1#", 3, 8);
        fault("A=(((((((#", 4, 8);
        fault("A=0.,0.,0.,0.,0.,0.,0#", 4, 20);
        fault("A=0#", 1, 3);
        fault("A#", 1, 1);
    }
}
