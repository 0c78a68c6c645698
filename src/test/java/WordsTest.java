/** Part 1 of the Terms, and promises 1 to 10: a new object, say, wipe, fault, learn, forget, word, line, join, rule. */
public final class WordsTest {
    private static final Due DUE = new Due("WordsTest");
    private static final int NONE = CutLetters.NONE, UNKNOWN = CutLetters.UNKNOWN, OUTSIDE = CutLetters.OUTSIDE;
    private static final int FULL = CutLetters.FULL, NO = CutLetters.NO;
    private static final int MIN = Integer.MIN_VALUE, MAX = Integer.MAX_VALUE;
    /** 24 letters, as many as a line can have. */
    private static final String MOST = "abcdefghabcdefghabcdefgh";

    public static void main(String[] args) {
        terms();
        faults();
        newObject();
        say();
        wipe();
        fault();
        learn();
        forget();
        word();
        line();
        join();
        rule();
        DUE.end();
    }

    private static void terms() {
        letters();
        classes();
        kinds();
        sixteenWords();
        numbers();
        lettersOfWords();
        kindsOfWords();
        costsOfWords();
        noTwoAlike();
        pad();
        names();
        figures();
        lettersOfLines();
        joins();
        joinsAtEdges();
        costRules();
        shortRule();
    }

    private static void word(String text, int due) {
        DUE.is("fault as a word of " + text, new Told().faultAsWord(text), due);
        DUE.is("learn of " + text, new Told().learn(text), due == NONE ? 0 : NO);
    }

    private static void line(String text, int due) {
        DUE.is("fault as a line of " + text, new Told().faultAsLine(text), due);
        DUE.is("line of " + text, new Told().pad(text).x.line(), due == NONE ? text.length() : NO);
    }

    private static void letters() {
        DUE.says("Terms", "LETTERS are a to h;");
        for (char sign = 33; sign <= 126; sign++) {
            boolean letter = "abcdefgh".indexOf(sign) >= 0;
            line(sign + "", letter ? NONE : 0);
            word(sign + "=n1", letter ? NONE : 0);
            line("a" + sign, letter ? NONE : 1);
        }
    }

    private static void classes() {
        DUE.says("Terms", "a and e are of CLASS 0, the others of CLASS 1.");
        for (char one = 'a'; one <= 'h'; one++) {
            for (char other = 'a'; other <= 'h'; other++) {
                boolean alike = "ae".indexOf(one) >= 0 == "ae".indexOf(other) >= 0;
                Told t = new Told().line("" + one + other);
                t.x.rule(3, 0);
                DUE.is("run of " + one + other, t.x.piece(0, 1), alike ? 2 : 1);
            }
        }
    }

    private static void kinds() {
        DUE.says("Terms", "KINDS are 0 NOUN, 1 VERB, 2 MARK, 3 WILD.");
        Told t = new Told().words("a=noun1", "a=verb1", "a=mark1").line("a");
        t.x.rule(0, 1);
        for (int kind = 0; kind < 3; kind++) {
            DUE.is("kind of word " + kind, t.x.word(kind, 1), kind);
        }
        for (int kind = 0; kind <= 3; kind++) {
            DUE.is("kind of piece " + kind, t.x.piece(kind, 2), kind);
        }
        DUE.is("only the last is no word's", t.x.piece(3, 4), NONE);
        DUE.is("all pieces", t.x.pieces(), 4);
    }

    private static Told words(int count) {
        Told t = new Told();
        for (int i = 0; i < count; i++) {
            t.learn("abcdefgh".charAt(i % 8) + "=" + "nv".charAt(i / 8) + i);
        }
        return t;
    }

    private static void sixteenWords() {
        DUE.says("Terms", "WORDS of the DICTIONARY (16 at most,");
        Told t = words(15);
        DUE.is("the 16th", t.learn("h=v15"), 15);
        DUE.is("the 17th", t.learn("a=m1"), FULL);
        DUE.is("sixteen", t.x.told(1), 16);
        DUE.is("the last one", t.x.word(15, 2), 15);
        DUE.is("no further one", t.x.word(16, 2), UNKNOWN);
    }

    private static void numbers() {
        DUE.says("Terms", "numbered from 0 on as they came, those behind one that goes are one less)");
        Told t = new Told();
        DUE.is("the first", t.learn("c=n1"), 0);
        DUE.is("the second", t.learn("bb=v2"), 1);
        t.words("aaa=m3", "dddd=n4");
        DUE.same("as they came", t.words(), "c=n1 bb=v2 aaa=m3 dddd=n4");
        t.x.forget(1);
        DUE.same("one from the middle goes", t.words(), "c=n1 aaa=m3 dddd=n4");
        t.x.forget(2);
        DUE.same("the last one goes", t.words(), "c=n1 aaa=m3");
        t.x.forget(0);
        DUE.same("the first one goes", t.words(), "aaa=m3");
        DUE.is("one that had gone comes as the last", t.learn("c=n9"), 1);
        t = words(16);
        t.x.forget(0);
        DUE.same("the first of sixteen goes", t.words(),
                "b=n1 c=n2 d=n3 e=n4 f=n5 g=n6 h=n7 a=v8 b=v9 c=v10 d=v11 e=v12 f=v13 g=v14 h=v15");
        t.x.forget(14);
        DUE.is("the last of fifteen goes", t.x.told(1), 14);
        DUE.same("the one before it stays", t.word(13), "g=v14");
    }

    private static void lettersOfWords() {
        DUE.says("Terms", "have 1 to 6 LETTERS,");
        word("=n1", 0);
        word("h=n1", NONE);
        word("abcdeh=n1", NONE);
        word("abcdehg=n1", 6);
        DUE.is("six are kept", new Told().words("abcdeh=n1").x.word(0, 0), 6);
    }

    private static void kindsOfWords() {
        DUE.says("Terms", "a KIND 0 to 2,");
        word("a=noun1", NONE);
        word("a=mark1", NONE);
        word("a=wild1", 2);
        word("a=w1", 2);
        word("a=01", 2);
        word("a=21", 2);
    }

    private static void costsOfWords() {
        DUE.says("Terms", "and a COST 0 to 99;");
        word("a=n0", NONE);
        word("a=n-1", 3);
        word("a=n99", NONE);
        word("a=n100", 5);
        DUE.is("the least cost", new Told().words("a=n0").x.word(0, 2), 0);
        DUE.is("the highest cost", new Told().words("a=n99").x.word(0, 2), 99);
    }

    private static void noTwoAlike() {
        DUE.says("Terms", "no two have the same LETTERS and KIND.");
        Told t = new Told().words("ab=n5");
        DUE.is("both the same", t.learn("ab=n6"), 0);
        DUE.is("both the same, by the whole name", t.learn("ab=noun7"), 0);
        DUE.is("another kind", t.learn("ab=v5"), 1);
        DUE.is("other letters", t.learn("ac=n5"), 2);
        DUE.is("letters less", t.learn("a=n5"), 3);
        DUE.is("letters more", t.learn("abb=n5"), 4);
        DUE.same("all of them", t.words(), "ab=n7 ab=v5 ac=n5 a=n5 abb=n5");
    }

    private static void pad() {
        DUE.says("Terms", "A WORD is told on a PAD (40 signs at most, codes 33 to 126):");
        Told t = new Told();
        for (int sign = 33; sign < 72; sign++) {
            DUE.is("say(" + sign + ")", t.x.say(sign), sign - 32);
        }
        DUE.is("the 40th", t.x.say(126), 40);
        DUE.is("the 41st", t.x.say(126), FULL);
        t = new Told();
        for (int sign = 72; sign <= 126 && sign - 71 <= 40; sign++) {
            DUE.is("say(" + sign + ")", t.x.say(sign), sign - 71);
        }
        t.x.wipe();
        for (int sign = 112; sign <= 126; sign++) {
            DUE.is("say(" + sign + ")", t.x.say(sign), sign - 111);
        }
        DUE.is("32", t.x.say(32), OUTSIDE);
        DUE.is("127", t.x.say(127), OUTSIDE);
    }

    private static void names() {
        DUE.says("Terms", "its LETTERS, =, its KIND as a name: noun, verb, mark, or the first letter of that,");
        String[] names = {"noun", "verb", "mark"};
        for (int kind = 0; kind < 3; kind++) {
            DUE.is(names[kind], new Told().words("a=" + names[kind] + "1").x.word(0, 1), kind);
            DUE.is(names[kind].substring(0, 1), new Told().words("a=" + names[kind].charAt(0) + "1").x.word(0, 1), kind);
            word("a=" + names[kind].substring(0, 2) + "1", 3);
            word("a=" + names[kind].substring(0, 3) + "1", 3);
            word("a=" + names[kind] + "s1", 6);
            word("a=" + names[kind].toUpperCase() + "1", 2);
        }
        word("an1", 1);
        word("a:n1", 1);
        word("a==n1", 2);
        word("a=1", 2);
    }

    private static void figures() {
        DUE.says("Terms", "and its COST, one or two figures.");
        word("a=n", 3);
        word("a=n5", NONE);
        word("a=n55", NONE);
        word("a=n555", 5);
        word("a=n/", 3);
        word("a=n:", 3);
        word("a=n9/", 4);
        word("a=n9:", 4);
        DUE.is("0 as the first of two", new Told().words("a=n07").x.word(0, 2), 7);
        DUE.is("0 twice", new Told().words("a=n00").x.word(0, 2), 0);
        DUE.is("the first one counts ten", new Told().words("a=n90").x.word(0, 2), 90);
    }

    private static void lettersOfLines() {
        DUE.says("Terms", "A LINE is told on the PAD, too: 1 to 24 LETTERS.");
        line("", 0);
        line("h", NONE);
        line(MOST, NONE);
        line(MOST + "a", 24);
    }

    private static void joins() {
        DUE.says("Terms", "JOINS: what one PIECE of a KIND behind another one costs: 0 to 99 (0 at first);");
        Told t = new Told().words("a=n1", "b=v1").line("ab");
        DUE.is("at first", t.x.cutting(0, -1), 2);
        DUE.is("the other way round", t.x.join(1, 0, 50), 0);
        DUE.is("b is behind a, not a behind b", t.x.cutting(0, -1), 2);
        DUE.is("99", t.x.join(0, 1, 99), 0);
        DUE.is("the cost with it", t.x.cutting(0, -1), 101);
        DUE.is("100", t.x.join(0, 1, 100), OUTSIDE);
        DUE.is("-1", t.x.join(0, 1, -1), OUTSIDE);
        DUE.is("the cost stays", t.x.cutting(0, -1), 101);
        DUE.is("0", t.x.join(0, 1, 0), 99);
        DUE.is("the cost without it", t.x.cutting(0, -1), 2);
    }

    private static void joinsAtEdges() {
        DUE.says("Terms", "also of each KIND as the first (behind 4), as the last (4 behind it).");
        String[] words = {"a=n1", "a=v1", "a=m1", ""};
        for (int kind = 0; kind < 4; kind++) {
            Told t = new Told().words(words[kind]).line("aa");
            t.rules(0, 0, 1, 0);
            int cost = t.x.cutting(0, -1);
            DUE.is("first, kind " + kind, t.x.join(4, kind, 20), 0);
            DUE.is("its cost, kind " + kind, t.x.cutting(0, -1), cost + 20);
            DUE.is("last, kind " + kind, t.x.join(kind, 4, 3), 0);
            DUE.is("both, kind " + kind, t.x.cutting(0, -1), cost + 23);
        }
    }

    private static void costRules() {
        DUE.says("Terms", "BASE 0 to 99 and EACH 0 to 99 (50 and 10 at first).");
        Told t = new Told().line("aaa");
        DUE.is("BASE at first", t.x.told(4), 50);
        DUE.is("EACH at first", t.x.told(5), 10);
        DUE.is("a wild piece at first", t.x.piece(0, 3), 60);
        DUE.is("EACH 100", t.x.rule(2, 100), OUTSIDE);
        DUE.is("EACH -1", t.x.rule(2, -1), OUTSIDE);
        DUE.is("EACH 0", t.x.rule(2, 0), 10);
        DUE.is("with EACH 0", t.x.piece(0, 3), 50);
        DUE.is("EACH 99", t.x.rule(2, 99), 0);
        DUE.is("with EACH 99", t.x.piece(0, 3), 149);
        DUE.is("BASE 100", t.x.rule(1, 100), OUTSIDE);
        DUE.is("BASE -1", t.x.rule(1, -1), OUTSIDE);
        DUE.is("BASE 0", t.x.rule(1, 0), 50);
        DUE.is("with BASE 0", t.x.piece(0, 3), 99);
        DUE.is("BASE 99", t.x.rule(1, 99), 0);
        DUE.is("with BASE 99", t.x.piece(0, 3), 198);
    }

    private static void shortRule() {
        DUE.says("Terms", "SHORT 0 to 3 (1 at first).");
        Told t = new Told().line("aaaaa");
        DUE.is("at first", t.x.told(6), 1);
        DUE.same("wild ones at first", t.wildAt(0), "1 5");
        DUE.is("SHORT 4", t.x.rule(3, 4), OUTSIDE);
        DUE.is("SHORT 3", t.x.rule(3, 3), 1);
        DUE.same("wild ones with 3", t.wildAt(0), "1 2 3 5");
        DUE.is("SHORT -1", t.x.rule(3, -1), OUTSIDE);
        DUE.is("SHORT 0", t.x.rule(3, 0), 3);
        DUE.same("wild ones with 0", t.wildAt(0), "5");
    }

    private static void faults() {
        firstWrongSign();
        faultOfNames();
        moreMustCome();
    }

    private static void firstWrongSign() {
        DUE.says("Terms", "THE FAULT, as a WORD, or as a LINE: the place (from 0 on) of the first sign that can not "
                + "stand there");
        word("i", 0);
        word("=", 0);
        word("i=x!", 0);
        word("ai=x!", 1);
        word("abcdef!", 6);
        word("abcdefg=n1", 6);
        word("a".repeat(40), 6);
        word("a=n!!", 3);
        word("a=n5!", 4);
        word("a=n5=", 4);
        word("a=n55!", 5);
        word("a=noun5a", 7);
        word("abcdef=noun55a", 13);
        line("i", 0);
        line("!a", 0);
        line("ai!", 1);
        line("a=n1", 1);
        line(MOST.substring(1) + "!", 23);
        line(MOST + "!", 24);
        line("a".repeat(40), 24);
    }

    private static void faultOfNames() {
        DUE.says("Terms", "(of a name: its first letter, if none of these stands there, as long as can be),");
        word("a=x", 2);
        word("a=oun1", 2);
        word("a=N1", 2);
        word("a=wild", 2);
        word("a=noun1", NONE);
        word("a=n1", NONE);
        word("a=no1", 3);
        word("a=nou1", 3);
        word("a=no", 3);
        word("a=nou", 3);
        word("a=nn1", 3);
        word("a=nerb1", 3);
        word("a=nounn1", 6);
        word("a=nounoun1", 6);
        word("a=noun", 6);
    }

    private static void moreMustCome() {
        DUE.says("Terms", "or the number of signs, if more must come.");
        word("", 0);
        word("a", 1);
        word("abcdef", 6);
        word("a=", 2);
        word("abcdef=", 7);
        word("a=n", 3);
        word("a=verb", 6);
        word("a=verb1", NONE);
        line("", 0);
        line("a", NONE);
    }

    private static void newObject() {
        DUE.says("Promise 1", "No WORD, no LINE; all JOINS cost nothing.");
        Told t = new Told();
        int[] due = {0, 0, 0, 0, 50, 10, 1};
        for (int what = 0; what < due.length; what++) {
            DUE.is("told(" + what + ")", t.x.told(what), due[what]);
        }
        for (int what = 10; what < 34; what++) {
            DUE.is("told(" + what + ")", t.x.told(what), 0);
        }
        DUE.is("no WORD", t.x.word(0, 0), UNKNOWN);
        DUE.is("no LINE", t.x.pieces(), NO);
        DUE.is("no LETTER of it", t.x.told(100), OUTSIDE);
        DUE.is("no IMAGE 0", t.x.restore(0), CutLetters.STATE);
        DUE.is("no IMAGE 1", t.x.restore(1), CutLetters.STATE);
    }

    private static void say() {
        DUE.says("Promise 2", "A sign more: how many.");
        Told t = new Told();
        DUE.is("the first", t.x.say('a'), 1);
        DUE.is("the second", t.x.say('a'), 2);
        DUE.is("told", t.x.told(0), 2);
        DUE.says("Promise 2", "OUTSIDE; FULL.");
        for (int sign : new int[] {32, 127, 0, -1, 33 + 256, 33 - 256, MIN, MAX}) {
            DUE.is("say(" + sign + ")", t.x.say(sign), OUTSIDE);
        }
        DUE.is("say(33)", t.x.say(33), 3);
        DUE.is("say(126)", t.x.say(126), 4);
        for (int i = 5; i <= 40; i++) {
            DUE.is("sign " + i, t.x.say('a'), i);
        }
        DUE.is("sign 41", t.x.say('a'), FULL);
        DUE.is("forty", t.x.told(0), 40);
    }

    private static void wipe() {
        DUE.says("Promise 3", "Signs go: how many there were.");
        Told t = new Told();
        DUE.is("none", t.x.wipe(), 0);
        t.x.say('a');
        DUE.is("one", t.x.wipe(), 1);
        DUE.is("none again", t.x.wipe(), 0);
        t.pad("ab=n5".repeat(8));
        DUE.is("no room", t.x.say('a'), FULL);
        DUE.is("forty", t.x.wipe(), 40);
        DUE.is("room again", t.x.say('a'), 1);
        DUE.is("no old sign stands behind the new one", t.x.fault(0), 1);
    }

    private static void fault() {
        DUE.says("Promise 4", "THE FAULT as a WORD (0), a LINE (1); NONE.");
        Told t = new Told();
        DUE.is("a WORD's", t.pad("ab=n5").x.fault(0), NONE);
        DUE.is("the same as a LINE", t.x.fault(1), 2);
        DUE.is("a LINE's", t.pad("ab").x.fault(1), NONE);
        DUE.is("the same as a WORD", t.x.fault(0), 2);
        DUE.is("the pad stays", t.x.told(0), 2);
        DUE.says("Promise 4", "OUTSIDE.");
        for (int as : new int[] {-1, 2, MIN, MAX}) {
            DUE.is("fault(" + as + ")", t.x.fault(as), OUTSIDE);
        }
    }

    private static void learn() {
        DUE.says("Promise 5", "The WORD of the PAD (which is empty then) is in the DICTIONARY;");
        Told t = new Told();
        DUE.is("the first", t.learn("ab=n5"), 0);
        DUE.is("the pad is empty", t.x.told(0), 0);
        DUE.is("the second", t.learn("abcdeh=mark42"), 1);
        DUE.same("both", t.words(), "ab=n5 abcdeh=m42");
        DUE.says("Promise 5", "if one of the same LETTERS and KIND is, it has that COST: its number.");
        DUE.is("the first again", t.learn("ab=noun99"), 0);
        DUE.is("the pad is empty", t.x.told(0), 0);
        DUE.is("the second again", t.learn("abcdeh=m0"), 1);
        DUE.same("no more words", t.words(), "ab=n99 abcdeh=m0");
        learnRefused();
    }

    private static void learnRefused() {
        DUE.says("Promise 5", "NO: there is a FAULT; FULL.");
        Told t = words(15);
        DUE.is("learn of nothing", t.x.learn(), NO);
        DUE.is("learn of a fault", t.learn("h=v123"), NO);
        DUE.is("the pad stays", t.x.told(0), 6);
        DUE.is("learn of what is no more a fault", t.learn("h=v12"), 15);
        DUE.is("one more", t.learn("a=m1"), FULL);
        DUE.is("the pad stays", t.x.told(0), 4);
        DUE.is("sixteen stay", t.x.told(1), 16);
        DUE.is("the last that is there", t.learn("h=v77"), 15);
        DUE.is("its cost", t.x.word(15, 2), 77);
        DUE.is("the first that is there", t.learn("a=n78"), 0);
        DUE.is("one goes", t.x.forget(15), 15);
        DUE.is("room again", t.learn("a=m1"), 15);
    }

    private static void forget() {
        DUE.says("Promise 6", "A WORD goes: how many there are.");
        Told t = new Told().words("a=n1", "bb=v2", "ccc=m3");
        DUE.is("forget(2)", t.x.forget(2), 2);
        DUE.is("forget(0)", t.x.forget(0), 1);
        DUE.same("one is left", t.words(), "bb=v2");
        DUE.says("Promise 6", "UNKNOWN.");
        for (int word : new int[] {-1, 1, MIN, MAX}) {
            DUE.is("forget(" + word + ")", t.x.forget(word), UNKNOWN);
        }
        DUE.is("the last one", t.x.forget(0), 0);
        DUE.is("of none", t.x.forget(0), UNKNOWN);
        t = words(16);
        DUE.is("the 17th", t.x.forget(16), UNKNOWN);
        DUE.is("the 16th", t.x.forget(15), 15);
    }

    private static void word() {
        DUE.says("Promise 7", "A WORD: how many LETTERS (what = 0), KIND (1), COST (2);");
        Told t = new Told().words("abcdeh=m42", "g=v0");
        int[] due = {6, 2, 42, 1, 1, 0};
        for (int i = 0; i < due.length; i++) {
            DUE.is("word(" + i / 3 + ", " + i % 3 + ")", t.x.word(i / 3, i % 3), due[i]);
        }
        DUE.says("Promise 7", "its LETTERS, 3 and on, as codes (NONE).");
        for (int i = 0; i < 6; i++) {
            DUE.is("letter " + i, t.x.word(0, 3 + i), "abcdeh".charAt(i));
        }
        DUE.is("a seventh", t.x.word(0, 9), NONE);
        DUE.is("word(0, MAX)", t.x.word(0, MAX), NONE);
        DUE.is("the only one", t.x.word(1, 3), 'g');
        DUE.is("a second", t.x.word(1, 4), NONE);
        DUE.says("Promise 7", "UNKNOWN; OUTSIDE: less than 0.");
        DUE.is("word(0, -1)", t.x.word(0, -1), OUTSIDE);
        DUE.is("word(0, MIN)", t.x.word(0, MIN), OUTSIDE);
        for (int word : new int[] {-1, 2, 16, MIN, MAX}) {
            DUE.is("word(" + word + ", 0)", t.x.word(word, 0), UNKNOWN);
        }
    }

    private static void line() {
        DUE.says("Promise 8", "The LINE is that of the PAD (which is empty then): LETTERS.");
        Told t = new Told();
        DUE.is("one letter", t.pad("h").x.line(), 1);
        DUE.is("the pad is empty", t.x.told(0), 0);
        DUE.is("24 letters", t.pad(MOST).x.line(), 24);
        DUE.same("all of them", t.line(), MOST);
        DUE.is("fewer", t.pad("gf").x.line(), 2);
        DUE.same("those alone", t.line(), "gf");
        DUE.is("no old letter behind them", t.x.told(102), OUTSIDE);
        DUE.says("Promise 8", "NO: there is a FAULT.");
        DUE.is("line of nothing", t.x.line(), NO);
        DUE.is("25 letters", t.pad(MOST + "a").x.line(), NO);
        DUE.is("the pad stays", t.x.told(0), 25);
        DUE.is("a sign that is no letter", t.pad("abi").x.line(), NO);
        DUE.same("the line stays", t.line(), "gf");
    }

    private static void join() {
        DUE.says("Promise 9", "A JOIN of one KIND, and another one behind it: which it was.");
        Told t = new Told();
        for (int i = 0; i < 24; i++) {
            DUE.is("join " + i, t.x.join(i / 5, i % 5, i + 1), 0);
        }
        for (int i = 0; i < 24; i++) {
            DUE.is("join " + i + " of 99", t.x.join(i / 5, i % 5, 99), i + 1);
            DUE.is("join " + i + " of 0", t.x.join(i / 5, i % 5, 0), 99);
        }
        DUE.says("Promise 9", "UNKNOWN: 0 to 4, 0 to 4, not 4 both; OUTSIDE.");
        for (int one = -1; one <= 5; one++) {
            for (int other = -1; other <= 5; other++) {
                boolean there = one >= 0 && one <= 4 && other >= 0 && other <= 4 && one + other < 8;
                String call = "join(" + one + ", " + other + ", ";
                DUE.is(call + "100)", t.x.join(one, other, 100), there ? OUTSIDE : UNKNOWN);
                DUE.is(call + "-1)", t.x.join(one, other, -1), there ? OUTSIDE : UNKNOWN);
                DUE.is(call + "99)", t.x.join(one, other, 99), there ? 0 : UNKNOWN);
            }
        }
        DUE.is("join(MIN, 0, 0)", t.x.join(MIN, 0, 0), UNKNOWN);
        DUE.is("join(0, MAX, 0)", t.x.join(0, MAX, 0), UNKNOWN);
        DUE.is("join(0, 0, MIN)", t.x.join(0, 0, MIN), OUTSIDE);
        DUE.is("join(0, 0, MAX)", t.x.join(0, 0, MAX), OUTSIDE);
    }

    private static void rule() {
        DUE.says("Promise 10", "A RULE: WHEN (what = 0), BASE (1), EACH (2), SHORT (3): which it was.");
        Told t = new Told();
        int[] first = {0, 50, 10, 1};
        int[] most = {2, 99, 99, 3};
        for (int what = 0; what < 4; what++) {
            DUE.is("rule(" + what + ", most)", t.x.rule(what, most[what]), first[what]);
            DUE.is("rule(" + what + ", 0)", t.x.rule(what, 0), most[what]);
            DUE.is("rule(" + what + ", 1)", t.x.rule(what, 1), 0);
            DUE.is("told(" + (3 + what) + ")", t.x.told(3 + what), 1);
        }
        DUE.says("Promise 10", "OUTSIDE: both.");
        for (int what = 0; what < 4; what++) {
            DUE.is("rule(" + what + ", -1)", t.x.rule(what, -1), OUTSIDE);
            DUE.is("rule(" + what + ", most + 1)", t.x.rule(what, most[what] + 1), OUTSIDE);
            DUE.is("rule(" + what + ", MIN)", t.x.rule(what, MIN), OUTSIDE);
            DUE.is("rule(" + what + ", MAX)", t.x.rule(what, MAX), OUTSIDE);
            DUE.is("it stays", t.x.told(3 + what), 1);
        }
        for (int what : new int[] {-1, 4, MIN, MAX}) {
            DUE.is("rule(" + what + ", 1)", t.x.rule(what, 1), OUTSIDE);
        }
    }
}
