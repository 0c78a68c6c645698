import java.util.Random;

/**
 * No call throws or fails to end, whatever its numbers are and however many calls came before it (behind the
 * 512th the answers are free, but there is one); and the same calls on another object give the same answers.
 */
public final class AnyCallsTest {
    private static final Due DUE = new Due("AnyCallsTest");
    private static final int RUNS = 400;
    private static final int CALLS = 1500;
    private static final int PROMISED = 512;
    private static final int[] EDGES = {Integer.MIN_VALUE, Integer.MIN_VALUE + 1, -1000003, -100, -7, -6, -5, -4, -3, -2,
            -1, 0, 1, 2, 3, 4, 5, 6, 7, 9, 10, 11, 12, 13, 15, 16, 17, 23, 24, 25, 33, 34, 39, 40, 41, 70, 71, 72, 97,
            98, 99, 100, 101, 104, 123, 124, 125, 126, 127, 479, 480, 481, 999, 1000, 1001, 1000003,
            Integer.MAX_VALUE - 100, Integer.MAX_VALUE - 3, Integer.MAX_VALUE - 1, Integer.MAX_VALUE};
    private static final String[] TEXTS = {"a=n1", "ab=verb22", "abb=m", "aaaaaa=noun0", "abcdefgh", "b=m99",
            "aaaaaaaaaaaaaaaaaaaaaaaa", "aaaaaaaaaaaaaaaaaaaaaaaaa", "aa=v0", "aaa=n0", "aaaa=mark0", "e", "bcdfgh",
            "aebaebaebaebaebaebaebaeb", "=n1", "abcdefg=n1", "a=noum1", "a=n100", "aa=m0", "a=v0", "a=m1"};

    private final int run;
    private final Random random;
    private final CutLetters one = new CutLetters();
    private final CutLetters twin = new CutLetters();
    private int calls;

    private AnyCallsTest(int run) {
        this.run = run;
        random = new Random(run);
    }

    public static void main(String[] args) {
        for (int run = 0; run < RUNS; run++) {
            new AnyCallsTest(run).go();
        }
        DUE.end();
    }

    private void go() {
        while (calls < CALLS) {
            if (random.nextInt(12) == 0) {
                tell(TEXTS[random.nextInt(TEXTS.length)]);
            } else {
                call(random.nextInt(18), number(), number(), number());
            }
        }
    }

    private int number() {
        int edge = EDGES[random.nextInt(EDGES.length)];
        return random.nextInt(20) == 0 ? random.nextInt() : random.nextInt(3) == 0 ? random.nextInt(6) : edge;
    }

    private void tell(String text) {
        call(1, 0, 0, 0);
        for (int i = 0; i < text.length(); i++) {
            call(0, text.charAt(i), 0, 0);
        }
        call(random.nextBoolean() ? 3 : 6, 0, 0, 0);
    }

    private void call(int which, int a, int b, int c) {
        calls++;
        String told = "run " + run + ", call " + calls + ": " + which + " (" + a + ", " + b + ", " + c + ")";
        int got;
        int other;
        try {
            got = answer(one, which, a, b, c);
            other = answer(twin, which, a, b, c);
        } catch (RuntimeException | StackOverflowError thrown) {
            DUE.same(told, thrown.toString(), "an answer");
            return;
        }
        DUE.holds(told + " answers one of the refusals, NONE, or a number: " + got, got >= CutLetters.NONE);
        if (calls <= PROMISED) {
            DUE.is(told + " on a twin", other, got);
        }
    }

    private static int answer(CutLetters x, int which, int a, int b, int c) {
        return switch (which) {
            case 0 -> x.say(a);
            case 1 -> x.wipe();
            case 2 -> x.fault(a);
            case 3 -> x.learn();
            case 4 -> x.forget(a);
            case 5 -> x.word(a, b);
            case 6 -> x.line();
            case 7 -> x.join(a, b, c);
            case 8 -> x.rule(a, b);
            case 9 -> x.pieces();
            case 10 -> x.piece(a, b);
            case 11 -> x.ways();
            case 12 -> x.cutting(a, b);
            case 13 -> x.sure(a);
            case 14 -> x.sign(a, b);
            case 15 -> x.image(a);
            case 16 -> x.restore(a);
            default -> x.told(a);
        };
    }
}
