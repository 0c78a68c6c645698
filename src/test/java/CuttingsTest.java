/** Parts 2 and 3 of the Terms with the rule WHEN, and promises 11 to 16: pieces, piece, ways, cutting, sure, sign. */
public final class CuttingsTest {
    private static final Due DUE = new Due("CuttingsTest");
    private static final int NONE = CutLetters.NONE, UNKNOWN = CutLetters.UNKNOWN, OUTSIDE = CutLetters.OUTSIDE;
    private static final int NO = CutLetters.NO;
    private static final int MIN = Integer.MIN_VALUE, MAX = Integer.MAX_VALUE;
    private static final String MANY = "aaaaaaaaaaaaaaaaaaaaaaaa";

    public static void main(String[] args) {
        whenNoWordBegins();
        whenAlways();
        whenNever();
        wordPieces();
        wildRuns();
        wildShorts();
        wildCosts();
        order();
        rowsThatCover();
        costs();
        numbersOfCuttings();
        equalCosts();
        leasts();
        surePlaces();
        written();
        pieces();
        piece();
        ways();
        cutting();
        sure();
        sign();
        DUE.end();
    }

    private static void whenNoWordBegins() {
        DUE.says("Terms", "RULES for what is unknown: WHEN 0: at each place at which no WORD of the DICTIONARY begins "
                + "(that is there in the LINE);");
        Told t = new Told().words("ab=n5", "bab=v5", "h=m5").line("abb");
        DUE.is("at first", t.x.told(3), 0);
        DUE.same("none at 0, where ab begins", t.wildAt(0), "");
        DUE.same("at 1, inside a word", t.wildAt(1), "1 2");
        DUE.same("at 2, where bab would begin in a longer line", t.wildAt(2), "1");
        t.line("abbab");
        DUE.same("none at 2 if bab is there as a whole", t.wildAt(2), "");
        t.line("abba");
        DUE.same("at 2 if one letter is missing", t.wildAt(2), "1");
        DUE.is("rule(0, -1)", t.x.rule(0, -1), OUTSIDE);
        DUE.is("rule(0, 0)", t.x.rule(0, 0), 0);
    }

    private static void whenAlways() {
        DUE.says("Terms", "1: at each place;");
        Told t = new Told().words("ab=n5", "bab=v5").line("abb");
        DUE.is("rule(0, 1)", t.x.rule(0, 1), 0);
        DUE.same("where a word begins, too", t.pieces(),
                "0,1,3,60,-6 0,2,0,5,0 1,1,3,60,-6 1,2,3,70,-6 2,1,3,60,-6");
    }

    private static void whenNever() {
        DUE.says("Terms", "2: never.");
        Told t = new Told().words("ab=n5", "bab=v5").line("abb");
        DUE.is("rule(0, 3)", t.x.rule(0, 3), OUTSIDE);
        DUE.is("rule(0, 2)", t.x.rule(0, 2), 0);
        DUE.same("not where no word begins either", t.pieces(), "0,2,0,5,0");
    }

    private static void wordPieces() {
        DUE.says("Terms", "PIECES of the LINE at a place: each WORD whose LETTERS stand there;");
        Told t = new Told().words("ab=n5", "ab=m6", "abcdeh=v7", "b=n8", "h=n9", "abd=n1", "cb=n1").line("abcdeh");
        t.x.rule(0, 2);
        DUE.same("all that are there, the last letter's too", t.pieces(),
                "0,2,0,5,0 0,2,2,6,1 0,6,1,7,2 1,1,0,8,3 5,1,0,9,4");
        t.line("abcde");
        DUE.same("not the one that is longer than the line", t.pieces(), "0,2,0,5,0 0,2,2,6,1 1,1,0,8,3");
        t.line("gabcdeh");
        DUE.same("the one that just reaches the end", t.pieces(),
                "1,2,0,5,0 1,2,2,6,1 1,6,1,7,2 2,1,0,8,3 6,1,0,9,4");
        t.line("gabcdeg");
        DUE.same("not the one whose last letter is another", t.pieces(), "1,2,0,5,0 1,2,2,6,1 2,1,0,8,3");
        t.line("gabcdehab").line("gabcde");
        DUE.same("not the one whose last letter is an old line's", t.pieces(), "1,2,0,5,0 1,2,2,6,1 2,1,0,8,3");
    }

    private static void wildRuns() {
        DUE.says("Terms", "and, if WHEN says so, WILD ones: the RUN (all LETTERS from there on that are of the same "
                + "CLASS as the first), if it has 6 at most, else its first 6;");
        Told t = new Told().line("aebcdfgheaa");
        t.x.rule(3, 0);
        DUE.same("runs of both classes, six at most", t.pieces(), "0,2,3,70,-6 1,1,3,60,-6 2,6,3,110,-6 3,5,3,100,-6 "
                + "4,4,3,90,-6 5,3,3,80,-6 6,2,3,70,-6 7,1,3,60,-6 8,3,3,80,-6 9,2,3,70,-6 10,1,3,60,-6");
        for (int length = 1; length <= 24; length++) {
            t = new Told().line(MANY.substring(0, length));
            t.x.rule(3, 0);
            DUE.is("a run of " + length, t.x.piece(0, 1), Math.min(length, 6));
            DUE.is("one at each place", t.x.pieces(), length);
        }
        t.line("aeaeaeb");
        DUE.same("a run of just six", t.wildAt(0), "6");
        t.line("aeaeaeab");
        DUE.same("of a run of seven, the first six", t.wildAt(0), "6");
        DUE.same("from its second on, all six", t.wildAt(1), "6");
        t.line("aeaeab");
        DUE.same("a run of five", t.wildAt(0), "5");
    }

    private static void wildShorts() {
        DUE.says("Terms", "and, of the first letters of it, one, two, as many as SHORT says, if those are fewer than "
                + "that.");
        String[][] due = {{"1", "1", "1", "1"}, {"2", "1 2", "1 2", "1 2"}, {"3", "1 3", "1 2 3", "1 2 3"},
            {"4", "1 4", "1 2 4", "1 2 3 4"}, {"5", "1 5", "1 2 5", "1 2 3 5"}, {"6", "1 6", "1 2 6", "1 2 3 6"},
            {"6", "1 6", "1 2 6", "1 2 3 6"}};
        for (int length = 1; length <= due.length; length++) {
            for (int most = 0; most <= 3; most++) {
                Told t = new Told().line(MANY.substring(0, length));
                t.x.rule(3, most);
                DUE.same("run " + length + ", SHORT " + most, t.wildAt(0), due[length - 1][most]);
            }
        }
    }

    private static void wildCosts() {
        DUE.says("Terms", "A WILD one costs BASE, and EACH for each LETTER.");
        Told t = new Told().line("bbbbbb");
        DUE.is("one letter", t.x.piece(0, 3), 50 + 10);
        DUE.is("six letters", t.x.piece(1, 3), 50 + 6 * 10);
        t.rules(0, 99, 99, 0);
        DUE.is("the dearest", t.x.piece(0, 3), 99 + 6 * 99);
        t.rules(0, 0, 0, 0);
        DUE.is("the cheapest", t.x.piece(0, 3), 0);
        t.rules(0, 7, 0, 0);
        DUE.is("BASE alone", t.x.piece(0, 3), 7);
        t.rules(0, 0, 7, 0);
        DUE.is("EACH alone", t.x.piece(0, 3), 42);
    }

    private static void order() {
        DUE.says("Terms", "PIECES are numbered by places, then by how many LETTERS, then by KINDS, rising.");
        Told t = new Told().words("bb=m1", "b=v2", "bb=n3", "b=n4", "ab=m5", "b=m6").line("abb");
        t.x.rule(0, 1);
        DUE.same("all", t.pieces(),
                "0,1,3,60,-6 0,2,2,5,4 1,1,0,4,3 1,1,1,2,1 1,1,2,6,5 1,1,3,60,-6"
                + " 1,2,0,3,2 1,2,2,1,0 1,2,3,70,-6 2,1,0,4,3 2,1,1,2,1 2,1,2,6,5 2,1,3,60,-6");
        t.x.forget(0);
        DUE.same("numbers of words fall", t.pieces(),
                "0,1,3,60,-6 0,2,2,5,3 1,1,0,4,2 1,1,1,2,0 1,1,2,6,4 1,1,3,60,-6"
                + " 1,2,0,3,1 1,2,3,70,-6 2,1,0,4,2 2,1,1,2,0 2,1,2,6,4 2,1,3,60,-6");
    }

    private static void rowsThatCover() {
        DUE.says("Terms", "A CUTTING is a row of PIECES that cover the LINE, one behind another.");
        Told t = new Told().words("ab=n1", "ba=n1").line("aba");
        t.x.rule(0, 2);
        DUE.is("none, as both pieces have the b", t.x.ways(), 0);
        DUE.same("no first one", t.cutting(0), "-6:");
        t.line("abba");
        DUE.same("one behind another", t.cutting(0), "2: 0 1");
        t.line("abgba");
        DUE.is("none, with a letter between them", t.x.ways(), 0);
        t.line("abgab");
        t.learn("abgab=n9");
        DUE.same("one piece alone", t.cutting(0) + " " + t.cutting(1), "9: 1 -6:");
        t = new Told().words("a=n1").line(MANY);
        DUE.is("as many as letters", t.x.cutting(0, -2), 24);
        DUE.is("the last of them", t.x.cutting(0, 23), 23);
        DUE.is("no further one", t.x.cutting(0, 24), NONE);
    }

    private static void costs() {
        DUE.says("Terms", "Its COST: the COSTS of all, the JOINS of each two that meet, of the first, of the last.");
        Told t = new Told().words("a=n1", "a=v1", "b=n1", "b=v1").line("ab");
        t.x.join(4, 0, 7);
        t.x.join(4, 1, 9);
        t.x.join(0, 4, 30);
        t.x.join(1, 4, 20);
        t.x.join(0, 1, 50);
        DUE.same("0", t.cutting(0), "31: 1 3");
        DUE.same("1", t.cutting(1), "39: 0 2");
        DUE.same("2", t.cutting(2), "41: 1 2");
        DUE.same("3", t.cutting(3), "79: 0 3");
        DUE.same("no more", t.cutting(4), "-6:");
        t.line("a");
        DUE.same("first and last at once", t.cutting(0) + " " + t.cutting(1), "30: 1 38: 0");
        t = new Told().line("a");
        t.x.join(4, 3, 11);
        t.x.join(3, 4, 22);
        DUE.same("wild ones, too", t.cutting(0), "93: 0");
        dearest();
        cheapest();
    }

    private static void dearest() {
        Told t = new Told().line("abababababababababababab").rules(0, 99, 99, 1);
        for (int i = 0; i < 24; i++) {
            t.x.join(i / 5, i % 5, 99);
        }
        DUE.is("the dearest cutting", t.x.cutting(0, -1), 24 * 198 + 25 * 99);
        DUE.is("is the least of each piece", t.x.piece(11, 5), 24 * 198 + 25 * 99);
    }

    private static void cheapest() {
        Told t = new Told().words("a=n0").line(MANY);
        DUE.is("the cheapest cutting", t.x.cutting(0, -1), 0);
        DUE.is("is the least of each piece", t.x.piece(11, 5), 0);
    }

    private static void numbersOfCuttings() {
        DUE.says("Terms", "CUTTINGS are numbered from 0 on by COSTS, then by the first PIECE at which they differ, the "
                + "one that is less first.");
        Told t = new Told().words("a=n2", "b=n2", "ab=n4", "ab=v4", "ab=m3").line("abab");
        // 0 a:n, 1 ab:n, 2 ab:v, 3 ab:m, 4 b:n, 5 a:n, 6 ab:n, 7 ab:v, 8 ab:m, 9 b:n
        String[] due = {"6: 3 8", "7: 0 4 8", "7: 1 8", "7: 2 8", "7: 3 5 9", "7: 3 6", "7: 3 7",
            "8: 0 4 5 9", "8: 0 4 6", "8: 0 4 7", "8: 1 5 9", "8: 1 6"};
        for (int i = 0; i < due.length; i++) {
            DUE.same("cutting " + i, t.cutting(i), due[i]);
        }
        twelveOfMany();
        changesAreSeen();
    }

    /** Dear ones come first at a place, so that the twelve kept have to give way to cheaper ones. */
    private static void twelveOfMany() {
        Told t = new Told().words("a=n9", "a=v8", "a=m7", "aa=n9", "aa=v8", "aa=m7").line("aaaa");
        // aa:m aa:m is 14; then 15 twice; 16 three times; 17 twice; 18 once; then three pieces from 21 on
        int[] due = {14, 15, 15, 16, 16, 16, 17, 17, 18, 21, 21, 21};
        for (int i = 0; i < due.length; i++) {
            DUE.is("cost of " + i, t.x.cutting(i, -1), due[i]);
        }
        DUE.same("least", t.cutting(0), "14: 5 17");
        DUE.same("of equals", t.cutting(9) + ", " + t.cutting(10) + ", " + t.cutting(11),
                "21: 2 8 17, 21: 2 11 20, 21: 5 14 20");
    }

    /** All sixteen cost the same: they come in order, and the last four do not push out a kept one. */
    private static void equalCosts() {
        Told t = new Told().words("a=n1", "a=v1").line("aaaa");
        for (int i = 0; i < 12; i++) {
            StringBuilder due = new StringBuilder("4:");
            for (int place = 0; place < 4; place++) {
                due.append(' ').append(2 * place + (i >> (3 - place) & 1));
            }
            DUE.same("cutting " + i, t.cutting(i), due.toString());
        }
        DUE.is("ways", t.x.ways(), 16);
        t.learn("a=v2");
        DUE.same("one of them is less by one", t.cutting(0) + " " + t.cutting(1), "4: 0 2 4 6 5: 0 2 4 7");
    }

    private static void changesAreSeen() {
        Told t = new Told().words("a=n10", "b=n10").line("ab");
        DUE.same("first", t.cutting(0), "20: 0 1");
        t.learn("ab=v15");
        DUE.same("a word more", t.cutting(0), "15: 1");
        t.learn("ab=v25");
        DUE.same("told anew", t.cutting(0), "20: 0 2");
        t.x.join(0, 0, 6);
        DUE.same("a join", t.cutting(0), "25: 1");
        t.x.forget(2);
        DUE.same("a word less", t.cutting(0), "26: 0 1");
        t.x.image(0);
        t.rules(1, 0, 1, 1);
        DUE.same("a rule", t.cutting(0), "2: 1 3");
        t.line("b");
        DUE.same("a line", t.cutting(0), "1: 1");
        t.x.restore(0);
        DUE.same("an image", t.cutting(0), "26: 0 1");
    }

    private static void leasts() {
        DUE.says("Terms", "LEAST of a PIECE: the least COST of a CUTTING that has it.");
        Told t = new Told().words("a=n1", "a=v2", "aa=m2", "b=v4", "ab=n3").line("aab");
        // a:n a:v aa:m | a:n a:v ab:n | b:v
        DUE.same("leasts", t.leasts(), "4 5 6 6 7 4 6");
        t.x.join(0, 0, 50);
        t.x.join(4, 1, 10);
        t.x.join(2, 1, 20);
        t.x.join(1, 4, 5);
        DUE.same("leasts with joins", t.leasts(), "12 15 31 22 12 15 12");
    }

    private static void surePlaces() {
        DUE.says("Terms", "A place (1 on, less than how many LETTERS there are) is SURE by d, if each CUTTING that "
                + "costs no more than d above the first one has a PIECE that ends there.");
        Told t = new Told().words("a=n0").line(MANY);
        DUE.is("1 to 23, not 0 and not 24", t.x.sure(0), (1 << 24) - 2);
        t.line("aaa");
        DUE.is("1 and 2, not 3", t.x.sure(0), 2 + 4);
        t.line("aa");
        DUE.is("1", t.x.sure(0), 2);
        t.line("a");
        DUE.is("one letter has no place", t.x.sure(0), 0);
        t = new Told().words("ab=n5", "ba=v7", "abba=m20", "ab=v6").line("abba");
        DUE.is("those of 12 and 13", t.x.sure(7), 4);
        DUE.is("the one of 20, too, which is 8 above", t.x.sure(8), 0);
        t.line("abbaab");
        DUE.is("two places", t.x.sure(7), 4 + 16);
        DUE.is("one of them", t.x.sure(8), 16);
        DUE.is("no place inside the only piece", new Told().words("ab=n5").line("ab").x.sure(0), 0);
        sureOfMany();
        sureOfFewer();
    }

    /** More cuttings than twelve cost as much as the first one: each of them counts. */
    private static void sureOfMany() {
        Told t = new Told().words("a=n1", "a=v1", "a=m1", "aa=n2").line("aaaaaa");
        DUE.same("the twelfth still has the first cuts", t.cutting(11), "6: 0 4 8 13 16 21");
        DUE.is("none is sure", t.x.sure(0), 0);
        t.learn("aa=n3");
        DUE.is("all are sure", t.x.sure(0), 62);
        DUE.is("none is sure by 1", t.x.sure(1), 0);
    }

    /** The pieces of a longer line and of a word that has gone do not count any more. */
    private static void sureOfFewer() {
        Told t = new Told().words("a=n1", "aa=n1").line("aaaa");
        DUE.is("the cut in the middle", t.x.sure(0), 4);
        t.x.forget(1);
        t.line("aaa");
        DUE.is("all cuts", t.x.sure(0), 2 + 4);
        DUE.is("no old piece", t.x.piece(3, 0), UNKNOWN);
    }

    private static void written() {
        DUE.says("Terms", "WRITTEN: the LETTERS, and a | between each two PIECES, a ? behind each WILD one.");
        Told t = new Told().words("ab=n5", "abb=v10").line("abba");
        DUE.same("the first", t.written(0), "abb|a?");
        DUE.same("the next one", t.written(1), "ab|b?|a?");
        t.line("ab");
        DUE.same("one piece", t.written(0), "ab");
        t.line("g");
        DUE.same("one wild piece", t.written(0), "g?");
        t.line("gab");
        DUE.same("a wild piece ahead", t.written(0), "g?|ab");
        t.line("abab");
        DUE.same("no wild piece", t.written(0), "ab|ab");
        DUE.same("the longest", new Told().line("ab".repeat(12)).written(0), "a?|b?|".repeat(12).substring(0, 71));
    }

    private static void pieces() {
        DUE.says("Promise 11", "How many PIECES there are.");
        Told t = new Told().line("a");
        DUE.is("one", t.x.pieces(), 1);
        t.x.rule(0, 2);
        DUE.is("none", t.x.pieces(), 0);
        fullestNet();
        DUE.says("Promise 11", "NO: there is no LINE.");
        t = new Told().words("a=n1");
        DUE.is("without a line", t.x.pieces(), NO);
        t.line("a");
        DUE.is("with one", t.x.pieces(), 1);
    }

    private static void fullestNet() {
        Told t = new Told();
        for (int i = 0; i < 16; i++) {
            t.learn(MANY.substring(0, 6 - i / 3) + "=" + "nvm".charAt(i % 3) + (i + 1));
        }
        t.line(MANY).rules(1, 50, 10, 3);
        int words = 0;
        int wild = 0;
        for (int left = 1; left <= 24; left++) {
            words += 3 * Math.min(left, 6) - 2;
            wild += Math.min(left, 4);
        }
        DUE.is("pieces of the fullest net", t.x.pieces(), words + wild);
        DUE.is("the last one's place", t.x.piece(words + wild - 1, 0), 23);
        DUE.is("the last one's kind", t.x.piece(words + wild - 1, 2), 3);
        DUE.is("no further one", t.x.piece(words + wild, 0), UNKNOWN);
        DUE.is("its least cutting", t.x.cutting(0, -1), 4);
    }

    private static void piece() {
        DUE.says("Promise 12", "A PIECE: place (what = 0), LETTERS (1), KIND (2), COST (3), its WORD (4; NONE: it is "
                + "WILD), LEAST (5; NONE: no CUTTING has it).");
        Told t = new Told().words("b=n9", "ab=v7").line("ab");
        t.x.rule(0, 1);
        DUE.same("all of each", t.pieces(), "0,1,3,60,-6 0,2,1,7,1 1,1,0,9,0 1,1,3,60,-6");
        DUE.same("and the least", t.leasts(), "69 7 69 120");
        noCuttingHasIt();
        DUE.says("Promise 12", "NO, likewise; UNKNOWN; OUTSIDE; in this order.");
        DUE.is("without a line", new Told().words("a=n1").x.piece(0, 0), NO);
        DUE.is("NO before UNKNOWN and OUTSIDE", new Told().x.piece(-1, 6), NO);
        for (int i : new int[] {-1, 4, 480, MIN, MAX}) {
            DUE.is("piece(" + i + ", 0)", t.x.piece(i, 0), UNKNOWN);
            DUE.is("UNKNOWN before OUTSIDE: piece(" + i + ", 6)", t.x.piece(i, 6), UNKNOWN);
        }
        for (int what : new int[] {-1, 6, MIN, MAX}) {
            DUE.is("piece(0, " + what + ")", t.x.piece(0, what), OUTSIDE);
            DUE.is("piece(3, " + what + ")", t.x.piece(3, what), OUTSIDE);
        }
    }

    private static void noCuttingHasIt() {
        Told t = new Told().words("a=n1", "ab=n3", "aa=m2").line("aab");
        t.x.rule(0, 2);
        DUE.same("none with those without a way on", t.leasts(), "4 -6 -6 4");
        t = new Told().words("ab=n1", "b=n1").line("abb");
        DUE.same("none with those without a way to them", t.leasts(), "2 -6 2");
        t.learn("b=n0");
        DUE.same("not even if they cost nothing", t.leasts(), "1 -6 1");
        t.learn("a=m0");
        DUE.same("all with a way to them", t.leasts(), "0 1 0 0");
    }

    private static void ways() {
        DUE.says("Promise 13", "How many CUTTINGS there are, left over by 1000003.");
        Told t = new Told().words("a=n1", "aa=n2").line("aaaaaaa");
        DUE.is("Fibonacci's", t.x.ways(), 21);
        t.learn("a=v1");
        DUE.is("kinds are told apart", t.x.ways(), 408);
        t.line("aaab");
        DUE.is("a way through what is unknown", t.x.ways(), 12);
        t.x.rule(0, 2);
        DUE.is("no way", t.x.ways(), 0);
        waysAtTheDivisor();
        manyWays();
        DUE.says("Promise 13", "NO, likewise.");
        t = new Told().words("a=n1");
        DUE.is("without a line", t.x.ways(), NO);
        DUE.is("with one", t.line("a").x.ways(), 1);
    }

    /** Lines and words that were sought for their number of cuttings. */
    private static void waysAtTheDivisor() {
        Told t = new Told().words("aa=n0", "aabb=n0", "aba=n0", "abb=n0", "b=n0", "b=v0", "b=m0", "ba=n0", "bbb=n0");
        t.line("aabbbbbaaabbabaabbbbaabb").x.rule(0, 2);
        DUE.is("1000002", t.x.ways(), 1000002);
        t = new Told().words("a=n0", "aa=n0", "aaa=n0", "aab=n0", "ab=n0", "ab=v0", "abba=n0", "b=n0", "ba=n0", "bbab=n0");
        t.line("aabbaaabaaaababbabaabaab").x.rule(0, 2);
        DUE.is("1000003", t.x.ways(), 0);
        DUE.is("there are some, though", t.x.cutting(11, -1), 0);
        t = new Told().words("a=n0", "a=v0", "aa=n0", "ab=n0", "b=n0", "baaa=n0");
        t.line("bbaaaaabbaaaaabbbbaabaaa").x.rule(0, 2);
        DUE.is("1000004", t.x.ways(), 1);
    }

    /** Checked against a sum of its own, as there are more than the divisor many times. */
    private static void manyWays() {
        Told t = new Told().line(MANY).rules(1, 50, 10, 3);
        for (int i = 0; i < 16; i++) {
            t.learn(MANY.substring(0, 1 + i / 3) + "=" + "nvm".charAt(i % 3) + "0");
        }
        long[] due = new long[25];
        due[24] = 1;
        for (int place = 23; place >= 0; place--) {
            for (int length = 1; length <= 6 && place + length <= 24; length++) {
                int wild = length <= 3 || length == Math.min(6, 24 - place) ? 1 : 0;
                due[place] += (wild + (length <= 5 ? 3 : 1)) * due[place + length];
            }
            due[place] %= 1000003;
        }
        DUE.is("ways of the fullest net", t.x.ways(), due[0]);
        DUE.is("all of one cost", t.x.cutting(0, -1), 0);
        DUE.is("the row of ones", t.x.cutting(0, -2), 24);
    }

    private static void cutting() {
        DUE.says("Promise 14", "A CUTTING 0 to 11: COST (j = -1), how many PIECES (j = -2), its j-th PIECE;");
        Told t = elevenWays();
        DUE.is("cost", t.x.cutting(0, -1), 5);
        DUE.is("pieces", t.x.cutting(0, -2), 2);
        DUE.is("the first", t.x.cutting(0, 0), 0);
        DUE.is("the second", t.x.cutting(0, 1), 5);
        DUE.is("cost of the last", t.x.cutting(10, -1), 31);
        DUE.is("pieces of the last", t.x.cutting(10, -2), 1);
        DUE.is("its piece", t.x.cutting(10, 0), 4);
        cuttingNone(t);
        cuttingRefused();
    }

    /** Nine of two pieces, and two of one. */
    private static Told elevenWays() {
        Told t = new Told().words("a=n1", "a=v2", "a=m3", "b=n4", "b=v5", "b=m6", "ab=n30", "ab=v31").line("ab");
        t.x.rule(0, 2);
        return t;
    }

    private static void cuttingNone(Told t) {
        DUE.says("Promise 14", "NONE: there is no such one, or not so many.");
        for (int j : new int[] {-2, -1, 0, MAX}) {
            DUE.is("of eleven, cutting(11, " + j + ")", t.x.cutting(11, j), NONE);
        }
        t.learn("ab=m32");
        DUE.same("of twelve, the twelfth", t.cutting(11), "32: 5");
        t.x.rule(0, 1);
        DUE.is("of more than twelve", t.x.ways(), 19);
        DUE.same("the twelfth", t.cutting(11), "32: 6");
        DUE.is("its first piece", t.x.cutting(11, 0), 6);
        DUE.is("no second", t.x.cutting(11, 1), NONE);
        DUE.is("the second of two", t.x.cutting(0, 1), 7);
        DUE.is("no third", t.x.cutting(0, 2), NONE);
        DUE.is("cutting(0, MAX)", t.x.cutting(0, MAX), NONE);
        t.line("h").x.rule(0, 2);
        DUE.is("there is none at all", t.x.cutting(0, -1), NONE);
        DUE.is("nor its pieces", t.x.cutting(0, -2), NONE);
    }

    private static void cuttingRefused() {
        DUE.says("Promise 14", "NO, likewise; UNKNOWN: another number; OUTSIDE: less than -2; in this order.");
        Told t = new Told().words("a=n1");
        DUE.is("without a line", t.x.cutting(0, -1), NO);
        DUE.is("NO before UNKNOWN", t.x.cutting(12, -1), NO);
        DUE.is("NO before OUTSIDE", t.x.cutting(0, -3), NO);
        t.line("a");
        for (int i : new int[] {-1, 12, MIN, MAX}) {
            DUE.is("cutting(" + i + ", -1)", t.x.cutting(i, -1), UNKNOWN);
            DUE.is("UNKNOWN before OUTSIDE: cutting(" + i + ", -3)", t.x.cutting(i, -3), UNKNOWN);
        }
        DUE.is("cutting(0, -1)", t.x.cutting(0, -1), 1);
        DUE.is("cutting(11, -1)", t.x.cutting(11, -1), NONE);
        DUE.is("cutting(0, -3)", t.x.cutting(0, -3), OUTSIDE);
        DUE.is("cutting(0, MIN)", t.x.cutting(0, MIN), OUTSIDE);
        DUE.is("cutting(0, -2)", t.x.cutting(0, -2), 1);
        DUE.is("refused, where there is no such one", t.x.cutting(11, -3), OUTSIDE);
    }

    private static void sure() {
        DUE.says("Promise 15", "SURE places by d (0 to 999), as bits; NONE: there is no CUTTING.");
        DUE.is("by 998, the next one is 999 above", shifted(9).x.sure(998), 4 + 16 + 64);
        DUE.is("by 999", shifted(9).x.sure(999), 0);
        DUE.is("by 999, the next one is 1000 above", shifted(10).x.sure(999), 4 + 16 + 64);
        Told t = new Told().words("ab=n1", "b=n2", "ab=v1").line("aba");
        DUE.is("there is one", t.x.sure(0), 4);
        t.x.rule(0, 2);
        DUE.is("there is none", t.x.sure(0), NONE);
        DUE.is("by 999 neither", t.x.sure(999), NONE);
        t.line("ab");
        DUE.is("there is one without a cut", t.x.sure(0), 0);
        DUE.says("Promise 15", "NO, likewise; OUTSIDE.");
        t.line("abb");
        for (int d : new int[] {-1, 1000, MIN, MAX}) {
            DUE.is("sure(" + d + ")", t.x.sure(d), OUTSIDE);
        }
        DUE.is("sure(0)", t.x.sure(0), 4);
        DUE.is("sure(999)", t.x.sure(999), 4);
        t.line("aba");
        DUE.is("refused, where there is no CUTTING", t.x.sure(1000), OUTSIDE);
        DUE.is("without a line", new Told().x.sure(0), NO);
        DUE.is("without a line", new Told().x.sure(999), NO);
        DUE.is("OUTSIDE before NO, as the Terms say", new Told().x.sure(-1), OUTSIDE);
        DUE.is("OUTSIDE before NO, as the Terms say", new Told().x.sure(1000), OUTSIDE);
    }

    /** Two cuttings: cb ab ab ad for nothing, and c ba ba ba d, dear in all its words and joins but the first. */
    private static Told shifted(int costOfFirst) {
        Told t = new Told().words("cb=n0", "ab=n0", "ad=n0", "c=v" + costOfFirst, "ba=v99", "d=v99").line("cbababad");
        t.x.rule(0, 2);
        t.x.join(4, 1, 99);
        t.x.join(1, 1, 99);
        t.x.join(1, 4, 99);
        DUE.is("the second cutting", t.x.cutting(1, -1), 990 + costOfFirst);
        return t;
    }

    private static void sign() {
        DUE.says("Promise 16", "A CUTTING 0 to 11, WRITTEN: how many signs (j = -1), the j-th;");
        Told t = elevenWays();
        DUE.is("signs of the first", t.x.sign(0, -1), 3);
        DUE.is("its first", t.x.sign(0, 0), 'a');
        DUE.is("the bar", t.x.sign(0, 1), '|');
        DUE.is("its last", t.x.sign(0, 2), 'b');
        DUE.is("signs of the last", t.x.sign(10, -1), 2);
        DUE.is("its last", t.x.sign(10, 1), 'b');
        DUE.is("the most signs", new Told().line("ab".repeat(12)).x.sign(0, -1), 24 + 24 + 23);
        DUE.is("the last of them", new Told().line("ab".repeat(12)).x.sign(0, 70), '?');
        DUE.is("the fewest signs", new Told().words("a=n1").line("a").x.sign(0, -1), 1);
        signNone(t);
        DUE.says("Promise 16", "NO, likewise; UNKNOWN; in this order.");
        t = new Told().words("a=n1");
        DUE.is("without a line", t.x.sign(0, -1), NO);
        DUE.is("NO before UNKNOWN", t.x.sign(12, -1), NO);
        t.line("a");
        for (int i : new int[] {-1, 12, MIN, MAX}) {
            DUE.is("sign(" + i + ", -1)", t.x.sign(i, -1), UNKNOWN);
            DUE.is("sign(" + i + ", 0)", t.x.sign(i, 0), UNKNOWN);
        }
        DUE.is("sign(0, 0)", t.x.sign(0, 0), 'a');
        DUE.is("sign(11, 0)", t.x.sign(11, 0), NONE);
    }

    private static void signNone(Told t) {
        DUE.says("Promise 16", "NONE: there is no such CUTTING, or sign.");
        DUE.is("of eleven, the twelfth", t.x.sign(11, -1), NONE);
        DUE.is("nor its signs", t.x.sign(11, 0), NONE);
        t.learn("ab=m32");
        DUE.is("of twelve, the twelfth", t.x.sign(11, -1), 2);
        DUE.is("one sign more than there are", t.x.sign(0, 3), NONE);
        DUE.is("sign(0, MAX)", t.x.sign(0, MAX), NONE);
        DUE.is("sign(0, -2)", t.x.sign(0, -2), NONE);
        DUE.is("sign(0, MIN)", t.x.sign(0, MIN), NONE);
        DUE.is("one more than the most", new Told().line("ab".repeat(12)).x.sign(0, 71), NONE);
        t.line("h");
        DUE.is("there is none at all", t.x.sign(0, -1), NONE);
    }
}
