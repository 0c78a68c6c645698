/** Promises 17 to 19: image, restore, told. */
public final class ImagesTest {
    private static final Due DUE = new Due("ImagesTest");
    private static final int OUTSIDE = CutLetters.OUTSIDE, STATE = CutLetters.STATE, NO = CutLetters.NO;
    private static final int[] NO_IMAGES = {-1, 2, Integer.MIN_VALUE, Integer.MAX_VALUE};

    public static void main(String[] args) {
        image();
        restore();
        told();
        DUE.end();
    }

    private static void image() {
        DUE.says("Promise 17", "The DICTIONARY, JOINS, RULES, the LINE are kept in an IMAGE (0, 1): 1.");
        Told t = much();
        String kept = state(t);
        DUE.is("image(0)", t.x.image(0), 1);
        DUE.same("it changes nothing", state(t), kept);
        DUE.is("nor the pad", t.x.told(0), 2);
        DUE.is("image(1)", t.x.image(1), 1);
        DUE.is("image(0) again", t.x.image(0), 1);
        DUE.says("Promise 17", "OUTSIDE.");
        t = new Told();
        for (int n : NO_IMAGES) {
            DUE.is("image(" + n + ")", t.x.image(n), OUTSIDE);
        }
        DUE.is("nothing is kept in 0", t.x.restore(0), STATE);
        DUE.is("nothing is kept in 1", t.x.restore(1), STATE);
    }

    private static void restore() {
        DUE.says("Promise 18", "They are as they were when they were kept: 1.");
        allIsKept();
        keptAgain();
        twoImages();
        fullImage();
        emptyImage();
        DUE.says("Promise 18", "OUTSIDE; STATE: they were not.");
        Told t = new Told();
        for (int n : NO_IMAGES) {
            DUE.is("restore(" + n + ")", t.x.restore(n), OUTSIDE);
        }
        DUE.is("restore(0)", t.x.restore(0), STATE);
        DUE.is("restore(1)", t.x.restore(1), STATE);
        DUE.is("image(1)", t.x.image(1), 1);
        DUE.is("restore(0), only 1 is kept", t.x.restore(0), STATE);
        DUE.is("restore(1)", t.x.restore(1), 1);
        DUE.is("image(0)", t.x.image(0), 1);
        DUE.is("restore(0)", t.x.restore(0), 1);
    }

    /** All that an image keeps, as the calls tell it. */
    private static String state(Told t) {
        StringBuilder text = new StringBuilder();
        for (int what = 1; what < 34; what++) {
            text.append(t.x.told(what)).append(' ');
        }
        return text.append(t.words()).append(' ').append(t.line()).toString();
    }

    private static Told much() {
        Told t = new Told().words("ab=n5", "b=v7", "abcdef=m20").line("abcdefab").rules(1, 3, 4, 2);
        for (int i = 0; i < 24; i++) {
            t.x.join(i / 5, i % 5, i + 13);
        }
        return t.pad("xy");
    }

    private static void changeAll(Told t) {
        t.words("ab=n6", "c=m1").line("cab").rules(2, 30, 40, 0);
        t.x.forget(1);
        for (int i = 0; i < 24; i++) {
            t.x.join(i / 5, i % 5, 99);
        }
        t.pad("xyz");
    }

    private static void allIsKept() {
        Told t = much();
        String kept = state(t);
        int cost = t.x.cutting(0, -1);
        t.x.image(0);
        changeAll(t);
        DUE.is("restore(0)", t.x.restore(0), 1);
        DUE.same("all is as it was", state(t), kept);
        DUE.is("the least cutting, too", t.x.cutting(0, -1), cost);
        DUE.is("the pad is not kept", t.x.told(0), 3);
    }

    private static void keptAgain() {
        Told t = much();
        String kept = state(t);
        t.x.image(1);
        t.x.restore(1);
        changeAll(t);
        DUE.is("restore(1) again", t.x.restore(1), 1);
        DUE.same("what came behind does not reach the image", state(t), kept);
    }

    private static void twoImages() {
        Told t = new Told().words("a=n1");
        t.x.image(0);
        t.learn("b=n2");
        t.x.image(1);
        t.learn("c=n3");
        DUE.is("restore(0)", t.x.restore(0), 1);
        DUE.same("one word", t.words(), "a=n1");
        DUE.is("restore(1)", t.x.restore(1), 1);
        DUE.same("two words", t.words(), "a=n1 b=n2");
        t.x.image(0);
        t.x.forget(0);
        t.x.restore(0);
        DUE.same("an image kept anew", t.words(), "a=n1 b=n2");
    }

    private static void fullImage() {
        Told t = new Told();
        String most = "abcdefghabcdefghabcdefgh";
        StringBuilder kept = new StringBuilder();
        for (int i = 0; i < 16; i++) {
            String word = most.substring(i, i + 6) + "=" + "nvm".charAt(i % 3) + (i + 10);
            t.learn(word);
            kept.append(i == 0 ? "" : " ").append(word);
        }
        t.line(most).x.image(1);
        // Each of the sixteen is another one then: fifteen are one less, and the last one is new.
        t.x.forget(0);
        t.words("aa=v99").line("gggggggggggggggggggggggg").x.restore(1);
        DUE.same("sixteen words", t.words(), kept.toString());
        DUE.same("the longest line", t.line(), most);
    }

    private static void emptyImage() {
        Told t = new Told();
        t.x.image(0);
        t.words("a=n1").line("a");
        DUE.is("restore(0)", t.x.restore(0), 1);
        DUE.is("no word", t.x.told(1), 0);
        DUE.is("no line", t.x.told(2), 0);
        DUE.is("no pieces", t.x.pieces(), NO);
        DUE.is("no cutting", t.x.cutting(0, -1), NO);
        DUE.is("no letter", t.x.told(100), OUTSIDE);
    }

    private static void told() {
        DUE.says("Promise 19", "0 signs, 1 WORDS, 2 LETTERS of the LINE, 3 to 6 the RULES, as told;");
        Told t = new Told().words("a=n1", "b=v2", "c=m3").line("abch").rules(2, 77, 88, 3).pad("abcde");
        int[] due = {5, 3, 4, 2, 77, 88, 3};
        for (int what = 0; what < due.length; what++) {
            DUE.is("told(" + what + ")", t.x.told(what), due[what]);
        }
        toldMost();
        DUE.says("Promise 19", "10 and 5 times a KIND, and another one: the JOIN (not 34);");
        for (int i = 0; i < 24; i++) {
            t.x.join(i / 5, i % 5, i + 40);
        }
        for (int what = 10; what < 34; what++) {
            DUE.is("told(" + what + ")", t.x.told(what), what + 30);
        }
        DUE.is("told(34)", t.x.told(34), OUTSIDE);
        toldLetters(t);
        DUE.says("Promise 19", "OUTSIDE.");
        int[] outside = {-1, 7, 8, 9, 34, 35, 50, 99, 104, 124, 200, Integer.MIN_VALUE, Integer.MAX_VALUE};
        for (int what : outside) {
            DUE.is("told(" + what + ")", t.x.told(what), OUTSIDE);
        }
    }

    private static void toldMost() {
        Told t = new Told();
        for (int i = 0; i < 16; i++) {
            t.learn("abcdefgh".charAt(i % 8) + "=" + "nv".charAt(i / 8) + i);
        }
        t.line("abcdefghabcdefghabcdefgh").pad("ab=n5".repeat(8));
        DUE.is("forty signs", t.x.told(0), 40);
        DUE.is("sixteen words", t.x.told(1), 16);
        DUE.is("24 letters", t.x.told(2), 24);
    }

    private static void toldLetters(Told t) {
        DUE.says("Promise 19", "100 and a place: the LETTER of the LINE there, as a code.");
        for (int place = 0; place < 4; place++) {
            DUE.is("told(" + (100 + place) + ")", t.x.told(100 + place), "abch".charAt(place));
        }
        DUE.is("one place more", t.x.told(104), OUTSIDE);
        DUE.is("one place less", t.x.told(99), OUTSIDE);
        DUE.is("no line", new Told().x.told(100), OUTSIDE);
        DUE.is("the 24th", new Told().line("aaaaaaaaaaaaaaaaaaaaaaah").x.told(123), 'h');
        DUE.is("a 25th", new Told().line("aaaaaaaaaaaaaaaaaaaaaaah").x.told(124), OUTSIDE);
    }
}
