/** Promises 11 to 16: pieces, piece, ways, cutting, sure, sign. */
public final class CuttingsTest {
    private static final Due DUE = new Due("CuttingsTest");
    private static final int NONE = CutLetters.NONE, UNKNOWN = CutLetters.UNKNOWN, OUTSIDE = CutLetters.OUTSIDE;
    private static final int NO = CutLetters.NO;
    private static final String MANY = "aaaaaaaaaaaaaaaaaaaaaaaa";

    public static void main(String[] args) {
        withoutLine();
        order();
        wildRuns();
        wildShorts();
        wildWhen();
        mostPieces();
        pieceRefused();
        leasts();
        changesAreSeen();
        ways();
        manyWays();
        cuttingOrder();
        joinsAtEdges();
        cuttingRefused();
        twelveOfMany();
        twelveOfEquals();
        sure();
        sign();
        longestWritten();
        noWay();
        DUE.end();
    }

    private static void same(String what, String got, String due) {
        DUE.holds(what + ": " + got + ", due is " + due, got.equals(due));
    }

    /** NO comes first where the document says so; else OUTSIDE is before it. */
    private static void withoutLine() {
        CutLetters x = new CutLetters();
        DUE.is("pieces()", x.pieces(), NO);
        DUE.is("piece(-1, -1)", x.piece(-1, -1), NO);
        DUE.is("piece(0, 9)", x.piece(0, 9), NO);
        DUE.is("ways()", x.ways(), NO);
        DUE.is("cutting(-1, -3)", x.cutting(-1, -3), NO);
        DUE.is("cutting(0, -3)", x.cutting(0, -3), NO);
        DUE.is("sure(0)", x.sure(0), NO);
        DUE.is("sure(1000)", x.sure(1000), OUTSIDE);
        DUE.is("sure(-1)", x.sure(-1), OUTSIDE);
        DUE.is("sign(12, 0)", x.sign(12, 0), NO);
    }

    private static void order() {
        Told t = new Told().words("bb=m1", "b=v2", "bb=n3", "b=n4", "ab=m5", "b=m6").line("abb");
        t.x.rule(0, 1);
        same("by place, letters, kind", t.pieces(),
                "0,1,3,60,-6 0,2,2,5,4 1,1,0,4,3 1,1,1,2,1 1,1,2,6,5 1,1,3,60,-6"
                + " 1,2,0,3,2 1,2,2,1,0 1,2,3,70,-6 2,1,0,4,3 2,1,1,2,1 2,1,2,6,5 2,1,3,60,-6");
        t.x.forget(0);
        same("numbers of words fall", t.pieces(),
                "0,1,3,60,-6 0,2,2,5,3 1,1,0,4,2 1,1,1,2,0 1,1,2,6,4 1,1,3,60,-6"
                + " 1,2,0,3,1 1,2,3,70,-6 2,1,0,4,2 2,1,1,2,0 2,1,2,6,4 2,1,3,60,-6");
    }

    private static void wildRuns() {
        Told t = new Told().line("aebcdfgheaa");
        t.x.rule(3, 0);
        same("runs of both classes", t.pieces(), "0,2,3,70,-6 1,1,3,60,-6 2,6,3,110,-6 3,5,3,100,-6 4,4,3,90,-6"
                + " 5,3,3,80,-6 6,2,3,70,-6 7,1,3,60,-6 8,3,3,80,-6 9,2,3,70,-6 10,1,3,60,-6");
        t.line("aeaeaeae");
        same("no more than six", t.pieces(), "0,6,3,110,-6 1,6,3,110,-6 2,6,3,110,-6 3,5,3,100,-6 4,4,3,90,-6"
                + " 5,3,3,80,-6 6,2,3,70,-6 7,1,3,60,-6");
        t.x.rule(1, 99);
        t.x.rule(2, 99);
        DUE.is("the dearest", t.x.piece(0, 3), 99 + 6 * 99);
        t.x.rule(1, 0);
        t.x.rule(2, 0);
        DUE.is("the cheapest", t.x.piece(0, 3), 0);
    }

    private static void wildShorts() {
        int[][] due = {{1, 1, 1, 1}, {1, 2, 2, 2}, {1, 2, 3, 3}, {1, 2, 3, 4}, {1, 2, 3, 4}, {1, 2, 3, 4}, {1, 2, 3, 4}};
        for (int length = 1; length <= 7; length++) {
            Told t = new Told().line(MANY.substring(0, length));
            for (int most = 0; most <= 3; most++) {
                t.x.rule(3, most);
                int at = 0;
                while (at < t.x.pieces() && t.x.piece(at, 0) == 0) {
                    at++;
                }
                DUE.is("wild ones at 0, run " + length + ", SHORT " + most, at, due[length - 1][most]);
                DUE.is("the run itself", t.x.piece(at - 1, 1), Math.min(length, 6));
            }
        }
    }

    private static void wildWhen() {
        Told t = new Told().words("ab=n5", "bab=v5").line("abb");
        same("where no word begins", t.pieces(), "0,2,0,5,0 1,1,3,60,-6 1,2,3,70,-6 2,1,3,60,-6");
        t.x.rule(0, 1);
        same("everywhere", t.pieces(), "0,1,3,60,-6 0,2,0,5,0 1,1,3,60,-6 1,2,3,70,-6 2,1,3,60,-6");
        t.x.rule(0, 2);
        same("never", t.pieces(), "0,2,0,5,0");
    }

    private static void mostPieces() {
        Told t = new Told();
        for (int i = 0; i < 16; i++) {
            t.learn(MANY.substring(0, 6 - i / 3) + "=" + "nvm".charAt(i % 3) + (i + 1));
        }
        t.line(MANY);
        t.x.rule(0, 1);
        t.x.rule(3, 3);
        int words = 0;
        int wild = 0;
        for (int left = 1; left <= 24; left++) {
            words += 3 * Math.min(left, 6) - 2;
            wild += Math.min(left, 4);
        }
        DUE.is("pieces of the fullest net", t.x.pieces(), words + wild);
        DUE.is("the last one's place", t.x.piece(words + wild - 1, 0), 23);
        DUE.is("the last one's kind", t.x.piece(words + wild - 1, 2), 3);
        DUE.is("no further one", t.x.piece(words + wild, 0), UNKNOWN);
        DUE.is("its least cutting", t.x.cutting(0, -1), 4);
    }

    private static void pieceRefused() {
        Told t = new Told().line("ab");
        DUE.is("piece(-1, 0)", t.x.piece(-1, 0), UNKNOWN);
        DUE.is("piece(2, 0)", t.x.piece(2, 0), UNKNOWN);
        DUE.is("UNKNOWN before OUTSIDE", t.x.piece(2, 6), UNKNOWN);
        DUE.is("piece(0, 6)", t.x.piece(0, 6), OUTSIDE);
        DUE.is("piece(1, -1)", t.x.piece(1, -1), OUTSIDE);
        DUE.is("piece(MAX, 0)", t.x.piece(Integer.MAX_VALUE, 0), UNKNOWN);
        DUE.is("piece(MIN, 0)", t.x.piece(Integer.MIN_VALUE, 0), UNKNOWN);
    }

    private static void leasts() {
        Told t = new Told().words("a=n1", "a=v2", "aa=m2", "b=v4", "ab=n3").line("aab");
        // a:n a:v aa:m | a:n a:v ab:n | b:v
        same("leasts", t.leasts(), "4 5 6 6 7 4 6");
        t.x.join(0, 0, 50);
        t.x.join(4, 1, 10);
        t.x.join(2, 1, 20);
        t.x.join(1, 4, 5);
        same("leasts with joins", t.leasts(), "12 15 31 22 12 15 12");
        t.x.rule(0, 2);
        t.x.forget(3);
        same("no cutting has those without a way on", t.leasts(), "54 15 -6 -6 -6 15");
        t = new Told().words("ab=n1", "b=n1").line("abb");
        same("no cutting has those without a way to them", t.leasts(), "2 -6 2");
        t.learn("b=n0");
        same("not even if they cost nothing", t.leasts(), "1 -6 1");
    }

    private static void changesAreSeen() {
        Told t = new Told().words("a=n10", "b=n10").line("ab");
        same("first", t.cutting(0), "20: 0 1");
        t.learn("ab=v15");
        same("a word more", t.cutting(0), "15: 1");
        t.learn("ab=v25");
        same("told anew", t.cutting(0), "20: 0 2");
        t.x.join(0, 0, 6);
        same("a join", t.cutting(0), "25: 1");
        t.x.forget(2);
        same("a word less", t.cutting(0), "26: 0 1");
        t.x.image(0);
        t.x.rule(0, 1);
        t.x.rule(1, 0);
        t.x.rule(2, 1);
        same("a rule", t.cutting(0), "2: 1 3");
        t.line("b");
        same("a line", t.cutting(0), "1: 1");
        t.x.restore(0);
        same("an image", t.cutting(0), "26: 0 1");
        same("a refused call changes nothing", t.x.rule(0, 3) + " " + t.cutting(0), "-2 26: 0 1");
    }

    private static void ways() {
        Told t = new Told().words("a=n1", "aa=n2").line("aaaaaaa");
        DUE.is("Fibonacci's", t.x.ways(), 21);
        t.learn("a=v1");
        DUE.is("kinds are told apart", t.x.ways(), 408);
        t.line("aaab");
        DUE.is("a way through what is unknown", t.x.ways(), 12);
        t.x.rule(0, 2);
        DUE.is("no way", t.x.ways(), 0);
    }

    /** Checked against a sum of its own, as there are more than the divisor. */
    private static void manyWays() {
        Told t = new Told().line(MANY);
        t.x.rule(3, 3);
        for (int i = 0; i < 16; i++) {
            t.learn(MANY.substring(0, 1 + i / 3) + "=" + "nvm".charAt(i % 3) + "0");
        }
        t.x.rule(0, 1);
        long[] due = new long[25];
        due[24] = 1;
        for (int place = 23; place >= 0; place--) {
            for (int length = 1; length <= 6 && place + length <= 24; length++) {
                int wild = length <= 3 || length == Math.min(6, 24 - place) ? 1 : 0;
                due[place] += (wild + (length <= 5 ? 3 : 1)) * due[place + length];
            }
            due[place] %= 1000003;
        }
        DUE.is("ways of the fullest net", t.x.ways(), due[0]);
        same("all of one cost: the row of ones", t.cutting(0).substring(0, 3), "0: ");
        DUE.is("as many as letters", t.x.cutting(0, -2), 24);
    }

    private static void cuttingOrder() {
        Told t = new Told().words("a=n2", "b=n2", "ab=n4", "ab=v4", "ab=m3").line("abab");
        // 0 a:n, 1 ab:n, 2 ab:v, 3 ab:m, 4 b:n, 5 a:n, 6 ab:n, 7 ab:v, 8 ab:m, 9 b:n
        String[] due = {"6: 3 8", "7: 0 4 8", "7: 1 8", "7: 2 8", "7: 3 5 9", "7: 3 6", "7: 3 7",
                "8: 0 4 5 9", "8: 0 4 6", "8: 0 4 7", "8: 1 5 9", "8: 1 6"};
        for (int i = 0; i < due.length; i++) {
            same("cutting " + i, t.cutting(i), due[i]);
        }
        DUE.is("a place behind its last piece", t.x.cutting(0, 2), NONE);
        DUE.is("far behind it", t.x.cutting(0, Integer.MAX_VALUE), NONE);
    }

    private static void joinsAtEdges() {
        Told t = new Told().words("a=n1", "a=v1", "b=n1", "b=v1").line("ab");
        t.x.join(4, 0, 7);
        t.x.join(4, 1, 9);
        t.x.join(0, 4, 30);
        t.x.join(1, 4, 20);
        t.x.join(0, 1, 50);
        same("0", t.cutting(0), "31: 1 3");
        same("1", t.cutting(1), "39: 0 2");
        same("2", t.cutting(2), "41: 1 2");
        same("3", t.cutting(3), "79: 0 3");
        same("4", t.cutting(4), "-6:");
        t.line("a");
        same("first and last at once", t.cutting(0) + " " + t.cutting(1), "30: 1 38: 0");
        t = new Told().line("a");
        t.x.join(4, 3, 11);
        t.x.join(3, 4, 22);
        same("wild ones, too", t.cutting(0), "93: 0");
    }

    private static void cuttingRefused() {
        Told t = new Told().words("a=n1").line("a");
        DUE.is("cutting(-1, 0)", t.x.cutting(-1, 0), UNKNOWN);
        DUE.is("cutting(12, -1)", t.x.cutting(12, -1), UNKNOWN);
        DUE.is("cutting(MAX, 0)", t.x.cutting(Integer.MAX_VALUE, 0), UNKNOWN);
        DUE.is("cutting(MIN, 0)", t.x.cutting(Integer.MIN_VALUE, 0), UNKNOWN);
        DUE.is("UNKNOWN before OUTSIDE", t.x.cutting(12, -3), UNKNOWN);
        DUE.is("cutting(0, -3)", t.x.cutting(0, -3), OUTSIDE);
        DUE.is("cutting(0, MIN)", t.x.cutting(0, Integer.MIN_VALUE), OUTSIDE);
        DUE.is("OUTSIDE before NONE", t.x.cutting(11, -3), OUTSIDE);
        DUE.is("cutting(11, -2)", t.x.cutting(11, -2), NONE);
        DUE.is("cutting(1, -1)", t.x.cutting(1, -1), NONE);
        DUE.is("cutting(1, 0)", t.x.cutting(1, 0), NONE);
    }

    /** Dear ones come first at a place, so that the twelve kept have to give way to cheaper ones. */
    private static void twelveOfMany() {
        Told t = new Told().words("a=n9", "a=v8", "a=m7", "aa=n9", "aa=v8", "aa=m7").line("aaaa");
        // aa:m aa:m is 14; then 15 twice; 16 three times; 17 twice; 18 once; then three pieces from 21 on
        int[] due = {14, 15, 15, 16, 16, 16, 17, 17, 18, 21, 21, 21};
        for (int i = 0; i < due.length; i++) {
            DUE.is("cost of " + i, t.x.cutting(i, -1), due[i]);
        }
        same("least", t.cutting(0), "14: 5 17");
        same("of equals", t.cutting(9) + ", " + t.cutting(10) + ", " + t.cutting(11),
                "21: 2 8 17, 21: 2 11 20, 21: 5 14 20");
    }

    /** All sixteen cost the same: they come in order, and the last four do not push out a kept one. */
    private static void twelveOfEquals() {
        Told t = new Told().words("a=n1", "a=v1").line("aaaa");
        for (int i = 0; i < 12; i++) {
            StringBuilder due = new StringBuilder("4:");
            for (int place = 0; place < 4; place++) {
                due.append(' ').append(2 * place + (i >> (3 - place) & 1));
            }
            same("cutting " + i, t.cutting(i), due.toString());
        }
        DUE.is("ways", t.x.ways(), 16);
    }

    private static void sure() {
        Told t = new Told().words("ab=n5", "ba=v7", "abba=m20", "ab=v6").line("abba");
        DUE.is("sure(-1)", t.x.sure(-1), OUTSIDE);
        DUE.is("sure(1000)", t.x.sure(1000), OUTSIDE);
        DUE.is("sure(MAX)", t.x.sure(Integer.MAX_VALUE), OUTSIDE);
        DUE.is("sure(0)", t.x.sure(0), 4);
        DUE.is("sure(7)", t.x.sure(7), 4);
        DUE.is("sure(8)", t.x.sure(8), 0);
        DUE.is("sure(999)", t.x.sure(999), 0);
        t.line("abbaab");
        DUE.is("two places", t.x.sure(0), 4 + 16);
        DUE.is("one of them", t.x.sure(8), 16);
        DUE.is("all the same", t.x.sure(999), 16);
        t.line("ab");
        DUE.is("no place inside one piece", t.x.sure(0), 0);
        t.line("a");
        DUE.is("one letter has no place", t.x.sure(0), 0);
        t = new Told().words("a=n0").line(MANY);
        DUE.is("all places", t.x.sure(999), (1 << 24) - 2);
        t.learn("aa=n99");
        DUE.is("still sure", t.x.sure(98), (1 << 24) - 2);
        DUE.is("no more", t.x.sure(99), 0);
    }

    private static void sign() {
        Told t = new Told().words("ab=n5", "abb=v10").line("abba");
        same("the first", t.written(0), "abb|a?");
        same("the next one", t.written(1), "ab|b?|a?");
        same("none", t.written(2), "");
        DUE.is("signs of the first", t.x.sign(0, -1), 6);
        DUE.is("the last", t.x.sign(0, 5), '?');
        DUE.is("one more", t.x.sign(0, 6), NONE);
        DUE.is("sign(0, MAX)", t.x.sign(0, Integer.MAX_VALUE), NONE);
        DUE.is("sign(0, -2)", t.x.sign(0, -2), NONE);
        DUE.is("sign(0, MIN)", t.x.sign(0, Integer.MIN_VALUE), NONE);
        DUE.is("sign(2, -1)", t.x.sign(2, -1), NONE);
        DUE.is("sign(11, 0)", t.x.sign(11, 0), NONE);
        DUE.is("sign(12, -1)", t.x.sign(12, -1), UNKNOWN);
        DUE.is("sign(-1, 0)", t.x.sign(-1, 0), UNKNOWN);
    }

    private static void longestWritten() {
        Told t = new Told().line("abababababababababababab");
        DUE.is("signs", t.x.sign(0, -1), 24 + 24 + 23);
        same("written", t.written(0), "a?|b?|".repeat(12).substring(0, 71));
        DUE.is("its cost", t.x.cutting(0, -1), 24 * 60);
        for (int i = 0; i < 24; i++) {
            t.x.join(i / 5, i % 5, 99);
        }
        t.x.rule(1, 99);
        t.x.rule(2, 99);
        DUE.is("the dearest cutting", t.x.cutting(0, -1), 24 * 198 + 25 * 99);
        DUE.is("is the least of each piece", t.x.piece(11, 5), 24 * 198 + 25 * 99);
        DUE.is("the 24th piece", t.x.cutting(0, 23), 23);
        DUE.is("a 25th", t.x.cutting(0, 24), NONE);
    }

    private static void noWay() {
        Told t = new Told().words("ab=n1", "b=n2").line("aba");
        t.x.rule(0, 2);
        DUE.is("pieces()", t.x.pieces(), 2);
        DUE.is("piece(0, 5)", t.x.piece(0, 5), NONE);
        DUE.is("ways()", t.x.ways(), 0);
        DUE.is("cutting(0, -1)", t.x.cutting(0, -1), NONE);
        DUE.is("cutting(0, -2)", t.x.cutting(0, -2), NONE);
        DUE.is("cutting(0, -3)", t.x.cutting(0, -3), OUTSIDE);
        DUE.is("sure(0)", t.x.sure(0), NONE);
        DUE.is("sure(1000)", t.x.sure(1000), OUTSIDE);
        DUE.is("sign(0, -1)", t.x.sign(0, -1), NONE);
        DUE.is("sign(12, -1)", t.x.sign(12, -1), UNKNOWN);
    }
}
