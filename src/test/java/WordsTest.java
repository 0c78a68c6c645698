/** Promises 1 to 10: a new object, say, wipe, fault, learn, forget, word, line, join, rule. */
public final class WordsTest {
    private static final Due DUE = new Due("WordsTest");
    private static final int NONE = CutLetters.NONE, UNKNOWN = CutLetters.UNKNOWN, OUTSIDE = CutLetters.OUTSIDE;
    private static final int FULL = CutLetters.FULL, NO = CutLetters.NO;

    public static void main(String[] args) {
        newObject();
        say();
        wipe();
        faultAsWord();
        faultAsLine();
        learn();
        learnFull();
        forget();
        word();
        line();
        join();
        rule();
        DUE.end();
    }

    private static void newObject() {
        CutLetters x = new CutLetters();
        int[] due = {0, 0, 0, 0, 50, 10, 1};
        for (int what = 0; what < due.length; what++) {
            DUE.is("new: told(" + what + ")", x.told(what), due[what]);
        }
        for (int what = 10; what < 34; what++) {
            DUE.is("new: told(" + what + ")", x.told(what), 0);
        }
        DUE.is("new: word(0, 0)", x.word(0, 0), UNKNOWN);
        DUE.is("new: pieces()", x.pieces(), NO);
        DUE.is("new: told(100)", x.told(100), OUTSIDE);
    }

    private static void say() {
        CutLetters x = new CutLetters();
        int[] bad = {32, 127, 0, -1, 33 + 256, Integer.MIN_VALUE, Integer.MAX_VALUE};
        for (int sign : bad) {
            DUE.is("say(" + sign + ")", x.say(sign), OUTSIDE);
        }
        DUE.is("say(33)", x.say(33), 1);
        DUE.is("say(126)", x.say(126), 2);
        for (int i = 3; i <= 40; i++) {
            DUE.is("say('a')", x.say('a'), i);
        }
        DUE.is("the 41st", x.say('a'), FULL);
        DUE.is("OUTSIDE before FULL", x.say(32), OUTSIDE);
        DUE.is("told(0)", x.told(0), 40);
    }

    private static void wipe() {
        Told t = new Told();
        DUE.is("wipe of none", t.x.wipe(), 0);
        t.pad("ab=");
        DUE.is("wipe of three", t.x.wipe(), 3);
        DUE.is("wipe again", t.x.wipe(), 0);
        DUE.is("say behind wipe", t.x.say('a'), 1);
        DUE.is("an old sign does not stand behind the new ones", t.x.fault(0), 1);
    }

    private static void word(String text, int due) {
        DUE.is("fault as a word of " + text, new Told().faultAsWord(text), due);
    }

    private static void faultAsWord() {
        DUE.is("fault(2)", new CutLetters().fault(2), OUTSIDE);
        DUE.is("fault(-1)", new CutLetters().fault(-1), OUTSIDE);
        String[] good = {"a=n0", "h=v9", "abcdef=m99", "a=noun5", "a=verb55", "a=mark00", "e=n05"};
        for (String text : good) {
            word(text, NONE);
        }
        word("", 0);
        word("=", 0);
        word("i", 0);
        word("A=n1", 0);
        word("`", 0);
        word("a", 1);
        word("ai=n1", 1);
        word("abcdef", 6);
        word("abcdefg", 6);
        word("abcdefa=n1", 6);
        word("a=", 2);
        word("a=x", 2);
        word("a=w1", 2);
        word("a=oun1", 2);
        word("a=N1", 2);
        word("a=5", 2);
        word("a==", 2);
        word("a=n", 3);
        word("a=no", 3);
        word("a=nou", 3);
        word("a=nou5", 3);
        word("a=nerb5", 3);
        word("a=nn5", 3);
        word("a=noun", 6);
        word("a=nounn", 6);
        word("a=verb", 6);
        word("a=marks1", 6);
        word("a=n5x", 4);
        word("a=n5=", 4);
        word("a=n55x", 5);
        word("a=n555", 5);
        word("a=noun5a", 7);
        word("a=n/", 3);
        word("a=n:", 3);
        word("a=n1/", 4);
        word("a=n1:", 4);
        word("aaaaaaaaaaaaaaaaaaaaaaaaaaaaaaaaaaaaaaaa", 6);
    }

    private static void line(String text, int due) {
        DUE.is("fault as a line of " + text, new Told().faultAsLine(text), due);
    }

    private static void faultAsLine() {
        String most = "abcdefghabcdefghabcdefgh";
        line("a", NONE);
        line("h", NONE);
        line(most, NONE);
        line("", 0);
        line("i", 0);
        line("!", 0);
        line("abi", 2);
        line("a=n1", 1);
        line(most + "a", 24);
        line(most + "!", 24);
        line(most + "aaaaaaaaaaaaaaaa", 24);
    }

    private static void learn() {
        Told t = new Told();
        DUE.is("learn of nothing", t.x.learn(), NO);
        DUE.is("learn of a fault", t.learn("ab=n123"), NO);
        DUE.is("a refused pad stays", t.x.told(0), 7);
        DUE.is("no word came", t.x.told(1), 0);
        DUE.is("the first", t.learn("ab=n5"), 0);
        DUE.is("the pad is empty", t.x.told(0), 0);
        DUE.is("the same letters, another kind", t.learn("ab=v6"), 1);
        DUE.is("other letters", t.learn("a=noun07"), 2);
        DUE.is("longer letters", t.learn("abc=noun7"), 3);
        DUE.is("the same again", t.learn("ab=noun99"), 0);
        DUE.is("no more words", t.x.told(1), 4);
        DUE.holds("the cost is the new one", t.word(0).equals("ab=n99"));
        DUE.holds("the other kind keeps its cost", t.word(1).equals("ab=v6"));
        DUE.holds("a figure 0 ahead", t.word(2).equals("a=n7"));
        DUE.holds("three letters", t.word(3).equals("abc=n7"));
    }

    private static void learnFull() {
        Told t = new Told();
        String letters = "abcdefgh";
        for (int i = 0; i < 16; i++) {
            DUE.is("word " + i, t.learn(letters.charAt(i % 8) + "=" + "nv".charAt(i / 8) + i), i);
        }
        DUE.is("a 17th", t.learn("a=m1"), FULL);
        DUE.is("a refused pad stays", t.x.told(0), 4);
        DUE.is("sixteen stay", t.x.told(1), 16);
        DUE.is("NO before FULL", t.learn("a=m"), NO);
        DUE.is("one that is there", t.learn("h=v77"), 15);
        DUE.is("its cost", t.x.word(15, 2), 77);
        DUE.is("forget(15)", t.x.forget(15), 15);
        DUE.is("room again", t.learn("a=m1"), 15);
    }

    private static void forget() {
        Told t = new Told().words("a=n1", "bb=v2", "ccc=m3", "dddd=n4");
        DUE.is("forget(4)", t.x.forget(4), UNKNOWN);
        DUE.is("forget(-1)", t.x.forget(-1), UNKNOWN);
        DUE.is("forget(MIN)", t.x.forget(Integer.MIN_VALUE), UNKNOWN);
        DUE.is("forget(MAX)", t.x.forget(Integer.MAX_VALUE), UNKNOWN);
        DUE.is("forget(1)", t.x.forget(1), 3);
        DUE.holds("the one before stays", t.word(0).equals("a=n1"));
        DUE.holds("those behind are one less", t.word(1).equals("ccc=m3"));
        DUE.holds("all those behind", t.word(2).equals("dddd=n4"));
        DUE.is("no fourth", t.x.word(3, 0), UNKNOWN);
        DUE.is("forget the last", t.x.forget(2), 2);
        DUE.is("forget the first", t.x.forget(0), 1);
        DUE.holds("one is left", t.word(0).equals("ccc=m3"));
        DUE.is("told anew, it is the last", t.learn("a=n9"), 1);
        DUE.is("forget(0)", t.x.forget(0), 1);
        DUE.is("forget(0)", t.x.forget(0), 0);
        DUE.is("forget of none", t.x.forget(0), UNKNOWN);
    }

    private static void word() {
        Told t = new Told().words("abcdeh=m42", "g=v0");
        int[] due = {6, 2, 42, 'a', 'b', 'c', 'd', 'e', 'h', NONE, NONE};
        for (int what = 0; what < due.length; what++) {
            DUE.is("word(0, " + what + ")", t.x.word(0, what), due[what]);
        }
        DUE.is("word(0, MAX)", t.x.word(0, Integer.MAX_VALUE), NONE);
        DUE.is("word(0, -1)", t.x.word(0, -1), OUTSIDE);
        DUE.is("word(0, MIN)", t.x.word(0, Integer.MIN_VALUE), OUTSIDE);
        DUE.is("word(1, 0)", t.x.word(1, 0), 1);
        DUE.is("word(1, 3)", t.x.word(1, 3), 'g');
        DUE.is("word(1, 4)", t.x.word(1, 4), NONE);
        DUE.is("word(2, 0)", t.x.word(2, 0), UNKNOWN);
        DUE.is("word(-1, 0)", t.x.word(-1, 0), UNKNOWN);
        DUE.is("UNKNOWN before OUTSIDE", t.x.word(2, -1), UNKNOWN);
    }

    private static void line() {
        Told t = new Told();
        DUE.is("line of nothing", t.x.line(), NO);
        DUE.is("line()", t.pad("abc").x.line(), 3);
        DUE.is("the pad is empty", t.x.told(0), 0);
        DUE.is("line of a fault", t.pad("abx").x.line(), NO);
        DUE.is("a refused pad stays", t.x.told(0), 3);
        DUE.is("the line stays", t.x.told(2), 3);
        DUE.is("25 letters", t.pad("aaaaaaaaaaaaaaaaaaaaaaaaa").x.line(), NO);
        DUE.is("24 letters", t.pad("abababababababababababah").x.line(), 24);
        DUE.is("the 24th", t.x.told(123), 'h');
        DUE.is("a shorter one", t.pad("g").x.line(), 1);
        DUE.is("its letter", t.x.told(100), 'g');
        DUE.is("no other", t.x.told(101), OUTSIDE);
        DUE.is("pieces of it", t.x.pieces(), 1);
    }

    private static void join() {
        CutLetters x = new CutLetters();
        for (int one = -1; one <= 5; one++) {
            for (int other = -1; other <= 5; other++) {
                boolean there = one >= 0 && one <= 4 && other >= 0 && other <= 4 && one + other < 8;
                String call = "join(" + one + ", " + other + ", ";
                DUE.is(call + "100)", x.join(one, other, 100), there ? OUTSIDE : UNKNOWN);
                DUE.is(call + "-1)", x.join(one, other, -1), there ? OUTSIDE : UNKNOWN);
                DUE.is(call + "..)", x.join(one, other, one * 5 + other + 1), there ? 0 : UNKNOWN);
            }
        }
        for (int i = 0; i < 24; i++) {
            DUE.is("join " + i + " of 99", x.join(i / 5, i % 5, 99), i + 1);
            DUE.is("join " + i + " of 0", x.join(i / 5, i % 5, 0), 99);
        }
        DUE.is("join(MIN, 0, 0)", x.join(Integer.MIN_VALUE, 0, 0), UNKNOWN);
        DUE.is("join(0, MAX, 0)", x.join(0, Integer.MAX_VALUE, 0), UNKNOWN);
    }

    private static void rule() {
        CutLetters x = new CutLetters();
        int[] first = {0, 50, 10, 1};
        int[] most = {2, 99, 99, 3};
        for (int what = 0; what < 4; what++) {
            String call = "rule(" + what + ", ";
            DUE.is(call + "-1)", x.rule(what, -1), OUTSIDE);
            DUE.is(call + "too much)", x.rule(what, most[what] + 1), OUTSIDE);
            DUE.is(call + "most)", x.rule(what, most[what]), first[what]);
            DUE.is(call + "0)", x.rule(what, 0), most[what]);
            DUE.is(call + "1)", x.rule(what, 1), 0);
            DUE.is("told", x.told(3 + what), 1);
        }
        DUE.is("rule(-1, 0)", x.rule(-1, 0), OUTSIDE);
        DUE.is("rule(4, 0)", x.rule(4, 0), OUTSIDE);
        DUE.is("rule(MAX, 0)", x.rule(Integer.MAX_VALUE, 0), OUTSIDE);
    }
}
