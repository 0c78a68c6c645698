/** Promises 17 to 19: image, restore, told. */
public final class ImagesTest {
    private static final Due DUE = new Due("ImagesTest");
    private static final int OUTSIDE = CutLetters.OUTSIDE, STATE = CutLetters.STATE, NO = CutLetters.NO;

    public static void main(String[] args) {
        refused();
        allIsKept();
        twoImages();
        fullImage();
        emptyImage();
        told();
        DUE.end();
    }

    private static void refused() {
        CutLetters x = new CutLetters();
        for (int n : new int[] {-1, 2, Integer.MIN_VALUE, Integer.MAX_VALUE}) {
            DUE.is("image(" + n + ")", x.image(n), OUTSIDE);
            DUE.is("restore(" + n + ")", x.restore(n), OUTSIDE);
        }
        DUE.is("restore(0)", x.restore(0), STATE);
        DUE.is("restore(1)", x.restore(1), STATE);
        DUE.is("image(1)", x.image(1), 1);
        DUE.is("restore(0)", x.restore(0), STATE);
        DUE.is("restore(1)", x.restore(1), 1);
    }

    /** All that an image keeps, as the calls tell it. */
    private static String state(Told t) {
        StringBuilder text = new StringBuilder();
        for (int what = 1; what < 124; what++) {
            text.append(t.x.told(what)).append(' ');
        }
        for (int i = 0; i < t.x.told(1); i++) {
            text.append(t.word(i)).append(' ');
        }
        return text.append(t.x.pieces() > 0 ? t.pieces() + t.cutting(0) : "").toString();
    }

    private static void allIsKept() {
        Told t = new Told().words("ab=n5", "b=v7", "abcdef=m20").line("abcdefab");
        t.x.join(0, 1, 13);
        t.x.join(4, 2, 14);
        t.x.join(3, 4, 15);
        t.x.rule(0, 1);
        t.x.rule(1, 3);
        t.x.rule(2, 4);
        t.x.rule(3, 2);
        t.pad("xy");
        String kept = state(t);
        DUE.is("image(0)", t.x.image(0), 1);
        DUE.holds("an image changes nothing", state(t).equals(kept));
        DUE.is("nor the pad", t.x.told(0), 2);
        t.words("ab=n6", "c=m1").line("cab");
        t.x.forget(1);
        for (int i = 0; i < 24; i++) {
            t.x.join(i / 5, i % 5, 99);
        }
        t.x.rule(0, 2);
        t.x.rule(1, 30);
        t.x.rule(2, 40);
        t.x.rule(3, 0);
        t.pad("xyz");
        DUE.is("restore(0)", t.x.restore(0), 1);
        DUE.holds("all is as it was", state(t).equals(kept));
        DUE.is("the pad is not kept", t.x.told(0), 3);
        t.words("ab=n7", "e=n1").line("e");
        DUE.is("restore(0) again", t.x.restore(0), 1);
        DUE.holds("what came behind does not reach the image", state(t).equals(kept));
    }

    private static void twoImages() {
        Told t = new Told().words("a=n1");
        t.x.image(0);
        t.learn("b=n2");
        t.x.image(1);
        t.learn("c=n3");
        DUE.is("restore(0)", t.x.restore(0), 1);
        DUE.is("one word", t.x.told(1), 1);
        DUE.is("restore(1)", t.x.restore(1), 1);
        DUE.is("two words", t.x.told(1), 2);
        DUE.holds("the second", t.word(1).equals("b=n2"));
        t.x.image(0);
        t.x.forget(0);
        t.x.restore(0);
        DUE.is("an image kept anew", t.x.told(1), 2);
    }

    private static void fullImage() {
        Told t = new Told();
        String most = "abcdefghabcdefghabcdefgh";
        for (int i = 0; i < 16; i++) {
            t.learn(most.substring(i, i + 6) + "=" + "nvm".charAt(i % 3) + (i + 10));
        }
        t.line(most);
        String kept = state(t);
        t.x.image(1);
        for (int i = 0; i < 16; i++) {
            t.x.forget(0);
        }
        for (int i = 0; i < 16; i++) {
            t.learn("aaaaaa".substring(i / 3) + "=" + "nvm".charAt(i % 3) + "99");
        }
        t.line("hhhhhhhhhhhhhhhhhhhhhhhh");
        t.x.restore(1);
        DUE.is("sixteen words", t.x.told(1), 16);
        DUE.holds("all of them, and the longest line", state(t).equals(kept));
    }

    private static void emptyImage() {
        Told t = new Told();
        t.x.image(0);
        t.words("a=n1").line("a");
        DUE.is("restore(0)", t.x.restore(0), 1);
        DUE.is("no word", t.x.told(1), 0);
        DUE.is("no line", t.x.told(2), 0);
        DUE.is("no pieces", t.x.pieces(), NO);
        DUE.is("no letter", t.x.told(100), OUTSIDE);
    }

    private static void told() {
        Told t = new Told().words("a=n1", "b=v2", "c=m3").line("abch");
        for (int i = 0; i < 24; i++) {
            t.x.join(i / 5, i % 5, i + 40);
        }
        t.x.rule(0, 2);
        t.x.rule(1, 77);
        t.x.rule(2, 88);
        t.x.rule(3, 3);
        t.pad("abcde");
        int[] due = {5, 3, 4, 2, 77, 88, 3, OUTSIDE, OUTSIDE, OUTSIDE};
        for (int what = 0; what < due.length; what++) {
            DUE.is("told(" + what + ")", t.x.told(what), due[what]);
        }
        for (int what = 10; what < 34; what++) {
            DUE.is("told(" + what + ")", t.x.told(what), what + 30);
        }
        for (int what : new int[] {-1, 34, 35, 50, 99, 104, 124, 200, Integer.MIN_VALUE, Integer.MAX_VALUE}) {
            DUE.is("told(" + what + ")", t.x.told(what), OUTSIDE);
        }
        for (int place = 0; place < 4; place++) {
            DUE.is("told(" + (100 + place) + ")", t.x.told(100 + place), "abch".charAt(place));
        }
    }
}
