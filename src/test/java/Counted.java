/** An object of the class whose calls are counted: a test that went beyond 512 would hold what is not promised. */
final class Counted {
    private static final int MOST_CALLS = 512;

    private final CutLetters x = new CutLetters();
    private int calls;

    int calls() {
        return calls;
    }

    private CutLetters call() {
        calls++;
        if (calls > MOST_CALLS) {
            throw new IllegalStateException("the test makes more than 512 calls on one object");
        }
        return x;
    }

    int say(int sign) {
        return call().say(sign);
    }

    int wipe() {
        return call().wipe();
    }

    int fault(int as) {
        return call().fault(as);
    }

    int learn() {
        return call().learn();
    }

    int forget(int word) {
        return call().forget(word);
    }

    int word(int word, int what) {
        return call().word(word, what);
    }

    int line() {
        return call().line();
    }

    int join(int one, int other, int cost) {
        return call().join(one, other, cost);
    }

    int rule(int what, int n) {
        return call().rule(what, n);
    }

    int pieces() {
        return call().pieces();
    }

    int piece(int i, int what) {
        return call().piece(i, what);
    }

    int ways() {
        return call().ways();
    }

    int cutting(int i, int j) {
        return call().cutting(i, j);
    }

    int sure(int d) {
        return call().sure(d);
    }

    int sign(int i, int j) {
        return call().sign(i, j);
    }

    int image(int n) {
        return call().image(n);
    }

    int restore(int n) {
        return call().restore(n);
    }

    int told(int what) {
        return call().told(what);
    }
}
