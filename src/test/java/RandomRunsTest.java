import java.util.Random;

/** Random runs of up to 512 calls, all promises mixed, each answer held against the plain model's. */
public final class RandomRunsTest {
    private static final int RUNS = 1500;
    private static final int CALLS = 512;
    private static final String[] TAILS = {"n", "v", "m", "noun", "verb", "mark", "no", "x", "", "ver", "marks"};

    private final Due due;
    private final int run;
    private final Random random;
    private final CutLetters x = new CutLetters();
    private final PlainModel model = new PlainModel();
    /** Few letters make many words stand at a place; low costs make many cuttings cost the same. */
    private final String letters;
    private final int costs;
    private int calls;

    private RandomRunsTest(Due due, int run) {
        this.due = due;
        this.run = run;
        random = new Random(run);
        letters = new String[] {"a", "ab", "abe", "bc", "abcdefgh", "aebh"}[random.nextInt(6)];
        costs = new int[] {1, 3, 10, 100}[random.nextInt(4)];
    }

    public static void main(String[] args) {
        Due due = new Due("RandomRunsTest");
        for (int run = 0; run < RUNS; run++) {
            new RandomRunsTest(due, run).go();
        }
        due.end();
    }

    private void go() {
        for (int step = 0; step < CALLS && calls < CALLS; step++) {
            switch (random.nextInt(12)) {
                case 0, 1, 2 -> learn();
                case 3 -> line();
                case 4 -> join();
                case 5 -> rule();
                case 6 -> other();
                default -> ask();
            }
        }
    }

    private void check(String call, int got, int want) {
        calls++;
        if (calls <= CALLS) {
            due.is("run " + run + ", call " + calls + ": " + call, got, want);
        }
    }

    private String text(int most) {
        StringBuilder text = new StringBuilder();
        for (int left = 1 + random.nextInt(most); left > 0; left--) {
            text.append(letters.charAt(random.nextInt(letters.length())));
        }
        return text.toString();
    }

    private void pad(String text) {
        if (random.nextInt(10) > 0) {
            check("wipe()", x.wipe(), model.wipe());
        }
        for (int i = 0; i < text.length(); i++) {
            int sign = text.charAt(i);
            check("say(" + sign + ")", x.say(sign), model.say(sign));
        }
        int as = random.nextInt(4) - 1;
        check("fault(" + as + ")", x.fault(as), model.fault(as));
    }

    private void learn() {
        int kind = random.nextInt(random.nextInt(4) == 0 ? TAILS.length : 6);
        String cost = random.nextInt(20) == 0 ? "" : String.valueOf(random.nextInt(costs));
        pad(text(random.nextInt(20) == 0 ? 9 : 6) + (random.nextInt(30) == 0 ? "" : "=") + TAILS[kind] + cost);
        check("learn()", x.learn(), model.learn());
    }

    private void line() {
        pad(text(random.nextBoolean() ? 10 : random.nextInt(10) == 0 ? 40 : 24));
        check("line()", x.line(), model.line());
    }

    private void join() {
        int one = random.nextInt(20) == 0 ? random.nextInt(9) - 2 : random.nextInt(5);
        int other = random.nextInt(20) == 0 ? random.nextInt(9) - 2 : random.nextInt(5);
        int cost = random.nextInt(20) == 0 ? random.nextInt(300) - 100 : random.nextInt(costs);
        check("join(" + one + ", " + other + ", " + cost + ")",
                x.join(one, other, cost), model.join(one, other, cost));
    }

    private void rule() {
        int what = random.nextInt(20) == 0 ? random.nextInt(9) - 2 : random.nextInt(4);
        int n = random.nextInt(20) == 0 ? random.nextInt(300) - 100
                : random.nextInt(what == 0 ? 3 : what == 3 ? 4 : costs);
        check("rule(" + what + ", " + n + ")", x.rule(what, n), model.rule(what, n));
    }

    private void other() {
        int n = random.nextInt(10) == 0 ? random.nextInt(5) - 2 : random.nextInt(2);
        switch (random.nextInt(5)) {
            case 0 -> check("image(" + n + ")", x.image(n), model.image(n));
            case 1 -> check("restore(" + n + ")", x.restore(n), model.restore(n));
            case 2 -> {
                int word = random.nextInt(10) - 1;
                check("forget(" + word + ")", x.forget(word), model.forget(word));
            }
            case 3 -> check("wipe()", x.wipe(), model.wipe());
            default -> {
                int sign = random.nextInt(140) - 5;
                check("say(" + sign + ")", x.say(sign), model.say(sign));
            }
        }
    }

    private void ask() {
        int size = Math.max(1, model.pieces());
        int i = random.nextInt(10) == 0 ? random.nextInt(600) - 5 : random.nextInt(size);
        int what = random.nextInt(10) == 0 ? random.nextInt(10) - 2 : random.nextInt(6);
        int nth = random.nextInt(10) == 0 ? random.nextInt(20) - 4 : random.nextInt(12);
        switch (random.nextInt(9)) {
            case 0 -> check("pieces()", x.pieces(), model.pieces());
            case 1 -> check("piece(" + i + ", " + what + ")", x.piece(i, what), model.piece(i, what));
            case 2 -> check("piece(" + i + ", 5)", x.piece(i, 5), model.piece(i, 5));
            case 3 -> check("ways()", x.ways(), model.ways());
            case 4 -> cutting(nth);
            case 5 -> {
                int d = random.nextInt(10) == 0 ? random.nextInt(1100) - 50 : random.nextInt(2 * costs);
                check("sure(" + d + ")", x.sure(d), model.sure(d));
            }
            case 6 -> sign(nth);
            case 7 -> {
                int told = random.nextInt(random.nextBoolean() ? 40 : 130) - 2;
                check("told(" + told + ")", x.told(told), model.told(told));
            }
            default -> {
                int word = random.nextInt(18) - 1;
                check("word(" + word + ", " + what + ")", x.word(word, what), model.word(word, what));
            }
        }
    }

    private void cutting(int i) {
        for (int j = -3 + random.nextInt(3); j < 30; j += 1 + random.nextInt(4)) {
            check("cutting(" + i + ", " + j + ")", x.cutting(i, j), model.cutting(i, j));
        }
    }

    private void sign(int i) {
        for (int j = -2 + random.nextInt(2); j < 80; j += 1 + random.nextInt(16)) {
            check("sign(" + i + ", " + j + ")", x.sign(i, j), model.sign(i, j));
        }
    }
}
