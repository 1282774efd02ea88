/** The FAULTS of texts, each with its place; the first that is met as the text is read. */
public final class FaultsTest {
    private final Check check = new Check();

    public static void main(String[] args) {
        FaultsTest test = new FaultsTest();
        test.tokens();
        test.places();
        test.numbers();
        test.limits();
        test.words();
        test.order();
        test.check.finish("FaultsTest");
    }

    private void fault(String text, int kind, int place) {
        ShapeJudge x = new ShapeJudge();
        check.due("shapes of '" + text + "'", Check.tell(x, text), -10 - place);
        check.due("fault of '" + text + "'", x.fault(), kind);
        check.due("no shapes by '" + text + "'", x.count(2), 0);
    }

    private void told(String text, int shapes) {
        ShapeJudge x = new ShapeJudge();
        check.due("shapes of '" + text + "'", Check.tell(x, text), shapes);
        check.due("fault of '" + text + "'", x.fault(), 0);
    }

    private void tokens() {
        fault("a", 1, 0);
        fault("  #", 1, 2);
        fault("A=0.;\n", 1, 5);
        fault("A=0.;\t", 1, 5);
        fault("A=close;", 1, 2);
        fault("A=clos", 1, 2);
        fault("A=Closed;", 2, 2);
        fault("A=c losed;", 1, 2);
        fault("A=0 00000...1;", 1, 4);
        fault("A=0 12345", 1, 4);
        fault("A=0 -12345...1;", 1, 4);
        fault("A=0 -...1;", 1, 4);
        fault("A=0 - 1...1;", 1, 4);
        fault("A=0--1...1;", 1, 3);
        fault("A=0 1...2-", 1, 9);
        fault("-", 1, 0);
        fault("A=\"", 1, 2);
        fault("{", 1, 0);
        fault("@", 2, 0);
        fault("`", 1, 0);
        told("A=0-1...-1;", 1);
        told("A=0 -1 ...-0001;", 1);
        told("A=0000 0001...0001[0001 0002]closed;", 1);
        told("A=-0 1...1[-0 -0];", 1);
        told("   A   =   0   .   [  0   1  ]   closed   ;   ", 1);
        told("A=closed;B=0!A,1@A;", 2);
    }

    private void places() {
        fault("", 2, 0);
        fault("   ", 2, 3);
        fault("A", 2, 1);
        fault("A  ", 2, 3);
        fault("A=", 2, 2);
        fault("AB=;", 2, 1);
        fault("=", 2, 0);
        fault("0=;", 2, 0);
        fault("A=;;", 2, 3);
        fault("A=;=", 2, 3);
        fault("A=;closed", 2, 3);
        fault("A==;", 2, 2);
        fault("A=B;", 2, 2);
        fault("A=);", 2, 2);
        fault("A=.;", 2, 2);
        fault("A=,0.;", 2, 2);
        fault("A=[0 1];", 2, 2);
        fault("A=0;", 2, 3);
        fault("A=0", 2, 3);
        fault("A=0=;", 2, 3);
        fault("A=0...1;", 2, 3);
        fault("A=0..;", 2, 4);
        fault("A=0....;", 2, 3);
        fault("A=0 1;", 2, 5);
        fault("A=0 1 2;", 2, 6);
        fault("A=0 1.2;", 2, 5);
        fault("A=0 1..2;", 2, 5);
        fault("A=0 1....2;", 2, 8);
        fault("A=0 1...;", 2, 8);
        fault("A=0 1...A;", 2, 8);
        fault("A=0@;", 2, 4);
        fault("A=0@0;", 2, 4);
        fault("A=0!@A;", 2, 4);
        fault("A=0!", 2, 4);
        fault("A=0.0.;", 2, 4);
        fault("A=0.A;", 2, 4);
        fault("A=0.(1.);", 2, 4);
        fault("A=0.);", 2, 4);
        fault("A=0.[;", 2, 5);
        fault("A=0.[];", 2, 5);
        fault("A=0.[1];", 2, 6);
        fault("A=0.[1,2];", 2, 6);
        fault("A=0.[1 2;", 2, 8);
        fault("A=0.[1 2 3];", 2, 9);
        fault("A=0.[1 2][1 2];", 2, 9);
        fault("A=0.[1 2](1.);", 2, 9);
        fault("A=0.,;", 2, 5);
        fault("A=0.|;", 2, 5);
        fault("A=0.|,1.;", 2, 5);
        fault("A=0.,closed;", 2, 5);
        fault("A=();", 2, 3);
        fault("A=(;", 2, 3);
        fault("A=(closed;", 2, 3);
        fault("A=0.,(closed);", 2, 6);
        fault("A=(0.;", 2, 5);
        fault("A=(0.closed);", 2, 5);
        fault("A=(0.", 2, 5);
        fault("A=(0.));", 2, 6);
        fault("A=((0.),;", 2, 8);
        fault("A=0.closed", 2, 10);
        fault("A=closed closed;", 2, 9);
        fault("A=closed 0.;", 2, 9);
        fault("A=0.closed,1.;", 2, 10);
        fault("closed", 2, 0);
        fault(" ".repeat(400), 2, 400);
        fault("A=" + " ".repeat(398), 2, 400);
        mostTokens();
    }

    /** As many TOKENS as THE TAPE has bytes. */
    private void mostTokens() {
        String item = "((((((0.))))))";
        String body = "=" + (item + ",").repeat(5) + item + ";";
        String four = "A" + body + "B" + body + "C" + body + "D" + body;
        told(four + "E=" + item + "," + item + ";", 5);
        fault(four + "E=" + item + "," + item + ",", 2, 400);
        fault(four + "E=" + item + "," + item + "a", 1, 399);
    }

    private void numbers() {
        fault("A=10.;", 3, 2);
        fault("A=-1.;", 3, 2);
        fault("A=9999", 3, 2);
        fault("A=0.,10@A;", 3, 5);
        fault("A=(0.|-9.);", 3, 6);
        fault("A=0.[6 6];", 3, 5);
        fault("A=0.[-1 2];", 3, 5);
        fault("A=0.[0 6];", 3, 7);
        fault("A=0.[0-1];", 3, 6);
        fault("A=0.[5 4];", 3, 7);
        fault("A=0.[1 0 ", 3, 7);
        fault("A=0 5...4;", 3, 8);
        fault("A=0 -5...-6;", 3, 9);
        fault("A=0 0...-1", 3, 8);
        told("A=9.[5 5];", 1);
        told("A=0 -9999...-9999,0 9999...9999;", 1);
    }

    private void limits() {
        told("A=;B=;C=;D=;E=;F=;", 6);
        fault("A=;B=;C=;D=;E=;F=;G=;", 4, 18);
        fault("A=;B=;C=;D=;E=;F=;G", 4, 18);
        fault("A=;B=;C=;D=;E=;F=;;", 2, 18);
        told("A=0.,1.|2.,(3.,4.),5.;", 1);
        fault("A=0.,1.|2.,(3.,4.),5.,6.;", 4, 22);
        fault("A=0.,0.,0.,0.,0.,0.,(0.);", 4, 21);
        fault("A=0.,0.,0.,0.,0.,0.,;", 2, 20);
        told("A=0.,0.,0.;B=0.,0.,0.,0.,0.,0.;C=0.;", 3);
        told("A=((((((0.))))));", 1);
        told("A=((((((0.))))),((((0.))))),((((((0.))))));", 1);
        fault("A=(((((((0.)))))));", 4, 8);
        fault("A=0.,((((((0.|(1.)))))));", 4, 14);
        told("A=((0.)),((0.)),((0.)),((0.)),((0.)),((0.));", 1);
    }

    private void words() {
        fault("A=;A=;", 5, 3);
        fault("A=;B=;A", 5, 6);
        fault("A=0@B;", 6, 4);
        fault("A=0 !  Z;", 6, 7);
        fault("A=0@B;B=0!C,0@D;", 6, 10);
        told("A=0@B;B=0@A;", 2);
        fault("A=0!A;", 7, 4);
        fault("A=0!B;B=0@A;", 7, 4);
        fault("A=0@B;B=0!A;", 7, 10);
        fault("A=0@B;B=0@C;C=1.,0!A;", 7, 19);
        fault("A=0!B;B=0!A;", 7, 4);
        fault("B=0@C,0!C;C=0@C,1@B;", 7, 8);
        told("A=0!B,0@A;B=0@B,1!C;C=0@C;", 3);
        told("A=0@B,0!C;B=0@A;C=;", 3);
    }

    private void order() {
        fault("A=0@Z;a", 1, 6);
        fault("A=0!A;B=10", 3, 8);
        fault("A=0!A,0@B;", 6, 8);
        fault("A=0@Z;A=;", 5, 6);
        fault("A=10 x", 3, 2);
        fault("A=0.[6x", 3, 5);
        fault("A=;A x", 5, 3);
        fault("A=0 x=", 1, 4);
        fault("A=0.,0.,0.,0.,0.,0.,10.;", 3, 20);
        fault("A=;B=;C=;D=;E=;F=;A=;", 4, 18);
        fault("A=0.[2 9];", 3, 7);
        fault("A=0 x0000;B=12345", 1, 4);
    }
}
