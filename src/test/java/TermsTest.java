import java.util.function.Supplier;
import java.util.function.ToIntFunction;

/** What holds for all calls: how many there are, which refusal comes first, that refused calls change nothing. */
public final class TermsTest {
    private static final Due DUE = new Due("TermsTest");
    private static final int NONE = CutLetters.NONE, UNKNOWN = CutLetters.UNKNOWN, OUTSIDE = CutLetters.OUTSIDE;
    private static final int STATE = CutLetters.STATE, FULL = CutLetters.FULL, NO = CutLetters.NO;

    public static void main(String[] args) {
        calls();
        refusals();
        unknownFirst();
        outsideBeforeTheRest();
        noBeforeFull();
        noFirstWhereTold();
        DUE.says("Terms", "They change nothing.");
        changesAreSeen();
        refusedWords();
        refusedJoinsAndRules();
        refusedPieces();
        refusedImages();
        refusedWithoutLine();
        refusedWhenFull();
        DUE.end();
    }

    /** What the 513th call answers is free: no test asks for it (Counted sees to that). */
    private static void calls() {
        DUE.says("What it is", "An object is used for at most 512 calls after it has been made; "
                + "what later calls answer is free.");
        Told t = new Told();
        for (int round = 0; round < 127; round++) {
            DUE.is("say, round " + round, t.x.say('a'), 1);
            DUE.is("line, round " + round, t.x.line(), 1);
            DUE.is("cutting, round " + round, t.x.cutting(0, -1), 60 + round % 40);
            DUE.is("rule, round " + round, t.x.rule(1, 50 + (round + 1) % 40), 50 + round % 40);
        }
        DUE.is("the 509th", t.x.image(0), 1);
        DUE.is("the 510th", t.x.restore(0), 1);
        DUE.is("the 511th", t.x.sign(0, 1), '?');
        DUE.is("the 512th", t.x.told(100), 'a');
        DUE.is("all of them", t.x.calls(), 512);
    }

    private static void refusals() {
        DUE.says("Terms", "Calls that are refused answer, the first of these that fits: UNKNOWN -1 (there is no such "
                + "WORD, KIND, PIECE, CUTTING), OUTSIDE -2 (another number is not as told), NO -5 (as told), "
                + "STATE -3 (as told), FULL -4.");
        int[] got = {UNKNOWN, OUTSIDE, STATE, FULL, NO, NONE};
        for (int i = 0; i < got.length; i++) {
            DUE.is("constant " + i, got[i], -1 - i);
        }
        Told t = new Told().words("a=n1").line("a");
        DUE.is("no such WORD", t.x.word(1, 0), UNKNOWN);
        DUE.is("such a WORD", t.x.word(0, 0), 1);
        DUE.is("no such KIND", t.x.join(5, 0, 0), UNKNOWN);
        DUE.is("such a KIND", t.x.join(4, 0, 0), 0);
        DUE.is("no such PIECE", t.x.piece(1, 0), UNKNOWN);
        DUE.is("such a PIECE", t.x.piece(0, 0), 0);
        DUE.is("no such CUTTING", t.x.cutting(12, -1), UNKNOWN);
        DUE.is("such a CUTTING", t.x.cutting(0, -1), 1);
    }

    private static void unknownFirst() {
        Told t = new Told().words("a=n1");
        DUE.is("word: UNKNOWN before OUTSIDE", t.x.word(1, -1), UNKNOWN);
        DUE.is("word: OUTSIDE alone", t.x.word(0, -1), OUTSIDE);
        DUE.is("join: UNKNOWN before OUTSIDE", t.x.join(4, 4, 100), UNKNOWN);
        DUE.is("join: OUTSIDE alone", t.x.join(4, 3, 100), OUTSIDE);
    }

    private static void outsideBeforeTheRest() {
        Told t = new Told();
        DUE.is("sure: OUTSIDE before NO", t.x.sure(1000), OUTSIDE);
        DUE.is("sure: NO alone", t.x.sure(999), NO);
        DUE.is("restore: OUTSIDE before STATE", t.x.restore(2), OUTSIDE);
        DUE.is("restore: STATE alone", t.x.restore(1), STATE);
        t.pad("a".repeat(40));
        DUE.is("say: OUTSIDE before FULL", t.x.say(127), OUTSIDE);
        DUE.is("say: FULL alone", t.x.say(126), FULL);
    }

    private static void noBeforeFull() {
        Told t = sixteenWords();
        DUE.is("learn: NO before FULL", t.learn("a=m"), NO);
        DUE.is("learn: FULL alone", t.learn("a=m1"), FULL);
    }

    /** Piece, cutting and sign tell an order of their own: NO, then UNKNOWN, then OUTSIDE. */
    private static void noFirstWhereTold() {
        Told t = new Told();
        DUE.is("piece: NO before all", t.x.piece(-1, -1), NO);
        DUE.is("cutting: NO before all", t.x.cutting(12, -3), NO);
        DUE.is("sign: NO before UNKNOWN", t.x.sign(12, 0), NO);
        t.line("a");
        DUE.is("piece: UNKNOWN before OUTSIDE", t.x.piece(1, 6), UNKNOWN);
        DUE.is("piece: OUTSIDE alone", t.x.piece(0, 6), OUTSIDE);
        DUE.is("cutting: UNKNOWN before OUTSIDE", t.x.cutting(12, -3), UNKNOWN);
        DUE.is("cutting: OUTSIDE alone", t.x.cutting(11, -3), OUTSIDE);
        DUE.is("sign: UNKNOWN alone", t.x.sign(12, 0), UNKNOWN);
    }

    private static Told sixteenWords() {
        Told t = new Told();
        for (int i = 0; i < 16; i++) {
            t.learn("abcdefgh".charAt(i % 8) + "=" + "nv".charAt(i / 8) + i);
        }
        return t;
    }

    /** Something of all that can be kept, one image, and a pad that is neither a word nor a line. */
    private static Told much() {
        Told t = new Told().words("b=n3").line("bb");
        t.x.join(0, 0, 8);
        t.x.image(0);
        t.words("ab=n5", "ba=v7").line("abba").rules(1, 40, 9, 2);
        t.x.join(0, 1, 11);
        t.x.join(4, 0, 12);
        t.x.join(3, 4, 13);
        return t.pad("ab=x");
    }

    private static Told with(Told t, String pad) {
        return t.pad(pad);
    }

    /** All that an image keeps, as the calls tell it. */
    private static String book(Told t) {
        StringBuilder text = new StringBuilder();
        for (int what = 1; what < 34; what++) {
            text.append(t.x.told(what)).append(' ');
        }
        text.append(t.words()).append(' ').append(t.line());
        if (t.x.told(2) > 0) {
            text.append(' ').append(t.pieces()).append(' ').append(t.x.ways()).append(' ').append(t.x.sure(20));
            text.append(' ').append(t.cutting(0)).append(' ').append(t.cutting(1)).append(' ').append(t.written(0));
        }
        return text.toString();
    }

    /** All that the calls can tell, the pad and the images with it. */
    private static String all(Told t) {
        StringBuilder text = new StringBuilder(book(t));
        text.append(" / ").append(t.x.told(0)).append(' ').append(t.x.fault(0)).append(' ').append(t.x.fault(1));
        text.append(' ').append(t.x.learn()).append(' ').append(t.x.line()).append(' ').append(t.x.wipe());
        text.append(' ').append(t.words()).append(' ').append(t.line());
        for (int n = 0; n < 2; n++) {
            int restored = t.x.restore(n);
            text.append(" / ").append(restored).append(' ').append(restored == 1 ? book(t) : "");
        }
        return text.toString();
    }

    /** A call that is refused, and a twin of the object on which it was not made. */
    private static void refused(Supplier<Told> made, String call, ToIntFunction<Counted> asked, int due) {
        Told t = made.get();
        DUE.is(call, asked.applyAsInt(t.x), due);
        DUE.same("behind " + call, all(t), all(made.get()));
    }

    private static void seen(Supplier<Told> made, String call, ToIntFunction<Counted> asked, int due) {
        Told t = made.get();
        DUE.is(call, asked.applyAsInt(t.x), due);
        DUE.holds(call + " is seen", !all(t).equals(all(made.get())));
    }

    /** The calls just inside, which are not refused: if they were not seen, the other tests would hold nothing. */
    private static void changesAreSeen() {
        seen(TermsTest::much, "say(33)", x -> x.say(33), 5);
        seen(TermsTest::much, "wipe()", Counted::wipe, 4);
        seen(() -> with(much(), "a=m1"), "learn()", Counted::learn, 3);
        seen(() -> with(much(), "ba=v8"), "learn() of one that is there", Counted::learn, 2);
        seen(TermsTest::much, "forget(2)", x -> x.forget(2), 2);
        seen(() -> with(much(), "ab"), "line()", Counted::line, 2);
        seen(TermsTest::much, "join(3, 4, 99)", x -> x.join(3, 4, 99), 13);
        seen(TermsTest::much, "rule(0, 2)", x -> x.rule(0, 2), 1);
        seen(TermsTest::much, "rule(3, 3)", x -> x.rule(3, 3), 2);
        seen(TermsTest::much, "image(0)", x -> x.image(0), 1);
        seen(TermsTest::much, "image(1)", x -> x.image(1), 1);
        seen(TermsTest::much, "restore(0)", x -> x.restore(0), 1);
    }

    private static void refusedWords() {
        refused(TermsTest::much, "say(32)", x -> x.say(32), OUTSIDE);
        refused(TermsTest::much, "say(127)", x -> x.say(127), OUTSIDE);
        refused(TermsTest::much, "fault(-1)", x -> x.fault(-1), OUTSIDE);
        refused(TermsTest::much, "fault(2)", x -> x.fault(2), OUTSIDE);
        refused(TermsTest::much, "learn() of a fault", Counted::learn, NO);
        refused(() -> with(much(), "ab=n9x"), "learn() of what is good but for its end", Counted::learn, NO);
        refused(TermsTest::much, "forget(-1)", x -> x.forget(-1), UNKNOWN);
        refused(TermsTest::much, "forget(3)", x -> x.forget(3), UNKNOWN);
        refused(TermsTest::much, "word(3, 0)", x -> x.word(3, 0), UNKNOWN);
        refused(TermsTest::much, "word(0, -1)", x -> x.word(0, -1), OUTSIDE);
        refused(TermsTest::much, "line() of a fault", Counted::line, NO);
        refused(() -> with(much(), ""), "line() of an empty pad", Counted::line, NO);
        refused(() -> with(much(), "a".repeat(25)), "line() of 25", Counted::line, NO);
    }

    private static void refusedJoinsAndRules() {
        refused(TermsTest::much, "join(-1, 0, 5)", x -> x.join(-1, 0, 5), UNKNOWN);
        refused(TermsTest::much, "join(0, -1, 5)", x -> x.join(0, -1, 5), UNKNOWN);
        refused(TermsTest::much, "join(5, 0, 5)", x -> x.join(5, 0, 5), UNKNOWN);
        refused(TermsTest::much, "join(0, 5, 5)", x -> x.join(0, 5, 5), UNKNOWN);
        refused(TermsTest::much, "join(4, 4, 5)", x -> x.join(4, 4, 5), UNKNOWN);
        refused(TermsTest::much, "join(0, 1, -1)", x -> x.join(0, 1, -1), OUTSIDE);
        refused(TermsTest::much, "join(0, 1, 100)", x -> x.join(0, 1, 100), OUTSIDE);
        int[] most = {2, 99, 99, 3};
        for (int what = 0; what < most.length; what++) {
            int rule = what;
            refused(TermsTest::much, "rule(" + what + ", -1)", x -> x.rule(rule, -1), OUTSIDE);
            refused(TermsTest::much, "rule(" + what + ", more)", x -> x.rule(rule, most[rule] + 1), OUTSIDE);
        }
        refused(TermsTest::much, "rule(-1, 1)", x -> x.rule(-1, 1), OUTSIDE);
        refused(TermsTest::much, "rule(4, 1)", x -> x.rule(4, 1), OUTSIDE);
    }

    private static void refusedPieces() {
        refused(TermsTest::much, "piece(-1, 0)", x -> x.piece(-1, 0), UNKNOWN);
        refused(TermsTest::much, "piece(99, 0)", x -> x.piece(99, 0), UNKNOWN);
        refused(TermsTest::much, "piece(0, -1)", x -> x.piece(0, -1), OUTSIDE);
        refused(TermsTest::much, "piece(0, 6)", x -> x.piece(0, 6), OUTSIDE);
        refused(TermsTest::much, "cutting(-1, 0)", x -> x.cutting(-1, 0), UNKNOWN);
        refused(TermsTest::much, "cutting(12, 0)", x -> x.cutting(12, 0), UNKNOWN);
        refused(TermsTest::much, "cutting(0, -3)", x -> x.cutting(0, -3), OUTSIDE);
        refused(TermsTest::much, "sure(-1)", x -> x.sure(-1), OUTSIDE);
        refused(TermsTest::much, "sure(1000)", x -> x.sure(1000), OUTSIDE);
        refused(TermsTest::much, "sign(-1, 0)", x -> x.sign(-1, 0), UNKNOWN);
        refused(TermsTest::much, "sign(12, 0)", x -> x.sign(12, 0), UNKNOWN);
    }

    private static void refusedImages() {
        for (int n : new int[] {-1, 2}) {
            refused(TermsTest::much, "image(" + n + ")", x -> x.image(n), OUTSIDE);
            refused(TermsTest::much, "restore(" + n + ")", x -> x.restore(n), OUTSIDE);
        }
        refused(TermsTest::much, "restore(1)", x -> x.restore(1), STATE);
        refused(Told::new, "restore(0)", x -> x.restore(0), STATE);
        for (int what : new int[] {-1, 7, 9, 34, 99, 104}) {
            refused(TermsTest::much, "told(" + what + ")", x -> x.told(what), OUTSIDE);
        }
    }

    private static Told noLine() {
        return new Told().words("a=n1", "ab=v2").rules(1, 2, 3, 2).pad("ab=");
    }

    private static void refusedWithoutLine() {
        refused(TermsTest::noLine, "pieces()", Counted::pieces, NO);
        refused(TermsTest::noLine, "piece(0, 0)", x -> x.piece(0, 0), NO);
        refused(TermsTest::noLine, "ways()", Counted::ways, NO);
        refused(TermsTest::noLine, "cutting(0, -1)", x -> x.cutting(0, -1), NO);
        refused(TermsTest::noLine, "sure(0)", x -> x.sure(0), NO);
        refused(TermsTest::noLine, "sign(0, -1)", x -> x.sign(0, -1), NO);
    }

    private static void refusedWhenFull() {
        refused(() -> with(much(), "ab=n5".repeat(8)), "say of the 41st", x -> x.say('a'), FULL);
        refused(() -> with(much(), "ab=n5".repeat(8)), "say of a 41st that is no sign", x -> x.say(32), OUTSIDE);
        refused(() -> with(sixteenWords(), "a=m1"), "learn of the 17th", Counted::learn, FULL);
    }
}
