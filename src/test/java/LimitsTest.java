import java.util.Arrays;
import java.util.function.Supplier;

/** Any arguments in any state: nothing is thrown, answers keep to their bounds, and objects are alike. */
public final class LimitsTest {
    private static final int[] ODD = {
        Integer.MIN_VALUE, Integer.MIN_VALUE + 1, -1000000, -65, -33, -32, -10, -5, -4, -3, -2, -1, 0, 1, 2, 3, 4, 5,
        6, 7, 9, 10, 11, 31, 32, 33, 36, 40, 50, 64, 399, 400, 401, 1 << 16, 1 << 30, Integer.MAX_VALUE - 1,
        Integer.MAX_VALUE
    };
    private static final String FULL_TEXT =
        "A=((0.[0 5],1@B[0 5])[0 5]|(2!F[0 5],3 -9999...9999[0 5])[0 5],4@A[0 5],0@C[0 5])[0 5];"
        + "B=(0@B[0 2]|0!F[0 5],1@A[0 3],1@D)[0 5];C=0@D[0 5],1@E[0 5],0@A[0 5];D=0@E[0 5],1!F[0 5],0.[0 5]closed;"
        + "E=0@A[0 5],0@B[0 5],0@C[0 5],0@D[0 5],0@E[0 5],0!F[0 5];F=0@F,1@F[0 5],2.[0 5];";

    private final Check check = new Check();
    private long seed = 1;

    public static void main(String[] args) {
        LimitsTest test = new LimitsTest();
        test.oddArguments(ShapeJudge::new);
        test.oddArguments(LimitsTest::full);
        for (int run = 0; run < 2000; run++) {
            test.seed = run;
            int[] first = test.randomRun();
            test.seed = run;
            test.check.holds("run " + run + " twice alike", Arrays.equals(first, test.randomRun()));
        }
        test.manyDearCalls();
        test.check.finish("LimitsTest");
    }

    private static ShapeJudge full() {
        ShapeJudge x = new ShapeJudge();
        Check.tell(x, FULL_TEXT);
        for (int n = 0; n < 10; n++) {
            x.node(n % 3 != 0, n * 1000);
        }
        for (int i = 0; i < 40; i++) {
            x.edge(i / 5, i % 5 == 0 ? 0 : i % 2, (i * 3 + 1) % 10);
        }
        return x;
    }

    /** Each two arguments ask an object of their own, as one is not promised for more than 512 calls. */
    private void oddArguments(Supplier<ShapeJudge> maker) {
        for (int a : ODD) {
            for (int b : ODD) {
                askOdd(maker.get(), a, b);
            }
        }
        check.holds("asking changes nothing", Check.state(maker).equals(Check.state(() -> {
            ShapeJudge x = maker.get();
            askOdd(x, 3, 1);
            return x;
        })));
    }

    private void askOdd(ShapeJudge x, int a, int b) {
        int[] answers = {
            x.fits(a, b), x.surely(a, b), x.wanted(a, b), x.tooMany(a, b), x.which(a, b), x.depends(a, b)
        };
        for (int answer : answers) {
            check.holds("an answer in its bounds: " + answer, answer >= -4 && answer < 32);
        }
        x.all(a);
        x.count(a);
        x.told(a, b);
        for (int c : ODD) {
            check.holds("dealt in its bounds", x.dealt(a, b, c) >= -4 && x.dealt(a, b, c) < 6);
            check.holds("from in its bounds", x.from(a, b, c) >= -1 && x.from(a, b, c) < 10);
            x.part(a, b, c);
        }
    }

    private int pick(int below) {
        seed = seed * 6364136223846793005L + 1442695040888963407L;
        return (int) ((seed >>> 33) % below);
    }

    private int any() {
        return pick(4) == 0 ? ODD[pick(ODD.length)] : pick(7);
    }

    private int[] randomRun() {
        ShapeJudge x = pick(2) == 0 ? new ShapeJudge() : full();
        int[] answers = new int[300];
        for (int i = 0; i < answers.length; i++) {
            answers[i] = randomCall(x);
        }
        return answers;
    }

    private int bytes() {
        String signs = "ABC0123=;,|()[]@!.. -closed";
        int sum = 0;
        for (int i = 0; i < 4; i++) {
            sum = sum << 8 | signs.charAt(pick(signs.length()));
        }
        return pick(20) == 0 ? any() : sum;
    }

    private int randomCall(ShapeJudge x) {
        switch (pick(24)) {
            case 0: return x.node(pick(2) == 0, any());
            case 1: return x.value(any(), pick(2) == 0, any());
            case 2: case 3: return x.edge(any(), any(), any());
            case 4: return x.cut(any(), any(), any());
            case 5: case 6: return x.feed(bytes(), bytes(), bytes(), bytes(), bytes());
            case 7: return x.end(pick(2) == 0 ? any() : pick(420));
            case 8: return x.shapes();
            case 9: return x.fault();
            case 10: return x.fits(any(), any());
            case 11: return x.surely(any(), any());
            case 12: return x.all(any());
            case 13: return x.wanted(any(), any());
            case 14: return x.dealt(any(), any(), any());
            case 15: return x.tooMany(any(), any());
            case 16: return x.which(any(), any());
            case 17: return x.depends(any(), any());
            case 18: return x.part(any(), any(), any());
            case 19: return x.told(any(), any());
            case 20: return x.from(any(), any(), any());
            case 21: return pick(10) == 0 ? x.reset() : x.node(true, 1);
            default: return x.count(any());
        }
    }

    /** The dearest call on the fullest object, as often as an object is used. */
    private void manyDearCalls() {
        ShapeJudge x = full();
        check.due("six shapes", x.count(2), 6);
        check.due("forty edges", x.count(1), 40);
        int first = x.which(0, 0);
        for (int call = 60; call < 512; call++) {
            check.due("the same again", x.which(0, 0), first);
        }
    }
}
